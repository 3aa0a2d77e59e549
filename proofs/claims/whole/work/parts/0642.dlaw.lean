theorem dL_law_1561 : decode cL_law 1561 = .ok (.iload 4, 2) := by decide +kernel
theorem dL_law_1563 : decode cL_law 1563 = .ok (.iconst 1, 1) := by decide +kernel
theorem dL_law_1564 : decode cL_law 1564 = .ok (.iadd, 1) := by decide +kernel
theorem dL_law_1565 : decode cL_law 1565 = .ok (.iaload, 1) := by decide +kernel
theorem dL_law_1566 : decode cL_law 1566 = .ok (.aload_n 0, 1) := by decide +kernel
theorem dL_law_1567 : decode cL_law 1567 = .ok (.iload 4, 2) := by decide +kernel
theorem dL_law_1569 : decode cL_law 1569 = .ok (.iconst 2, 1) := by decide +kernel
theorem dL_law_1570 : decode cL_law 1570 = .ok (.iadd, 1) := by decide +kernel
theorem dL_law_1571 : decode cL_law 1571 = .ok (.iaload, 1) := by decide +kernel
theorem dL_law_1572 : decode cL_law 1572 = .ok (.aload_n 0, 1) := by decide +kernel
theorem dL_law_1573 : decode cL_law 1573 = .ok (.iload 4, 2) := by decide +kernel
theorem dL_law_1575 : decode cL_law 1575 = .ok (.iconst 3, 1) := by decide +kernel
theorem dL_law_1576 : decode cL_law 1576 = .ok (.iadd, 1) := by decide +kernel
theorem dL_law_1577 : decode cL_law 1577 = .ok (.iaload, 1) := by decide +kernel
theorem dL_law_1578 : decode cL_law 1578 = .ok (.aload_n 3, 1) := by decide +kernel
theorem dL_law_1579 : decode cL_law 1579 = .ok (.invokestatic 162, 3) := by decide +kernel
theorem dL_law_1582 : decode cL_law 1582 = .ok (.istore 5, 2) := by decide +kernel
theorem dL_law_1584 : decode cL_law 1584 = .ok (.aload_n 2, 1) := by decide +kernel
theorem dL_law_1585 : decode cL_law 1585 = .ok (.aload_n 0, 1) := by decide +kernel
theorem dL_law_1586 : decode cL_law 1586 = .ok (.iload 4, 2) := by decide +kernel
theorem dL_law_1588 : decode cL_law 1588 = .ok (.iconst 1, 1) := by decide +kernel
theorem dL_law_1589 : decode cL_law 1589 = .ok (.iadd, 1) := by decide +kernel
theorem dL_law_1590 : decode cL_law 1590 = .ok (.iaload, 1) := by decide +kernel
theorem dL_law_1591 : decode cL_law 1591 = .ok (.aload_n 0, 1) := by decide +kernel
theorem dL_law_1592 : decode cL_law 1592 = .ok (.iload 4, 2) := by decide +kernel
theorem dL_law_1594 : decode cL_law 1594 = .ok (.iconst 2, 1) := by decide +kernel
theorem dL_law_1595 : decode cL_law 1595 = .ok (.iadd, 1) := by decide +kernel
theorem dL_law_1596 : decode cL_law 1596 = .ok (.iaload, 1) := by decide +kernel
theorem dL_law_1597 : decode cL_law 1597 = .ok (.aload_n 0, 1) := by decide +kernel
theorem dL_law_1598 : decode cL_law 1598 = .ok (.iload 4, 2) := by decide +kernel
theorem dL_law_1600 : decode cL_law 1600 = .ok (.iconst 3, 1) := by decide +kernel
theorem dL_law_1601 : decode cL_law 1601 = .ok (.iadd, 1) := by decide +kernel
theorem dL_law_1602 : decode cL_law 1602 = .ok (.iaload, 1) := by decide +kernel
theorem dL_law_1603 : decode cL_law 1603 = .ok (.invokevirtual 164, 3) := by decide +kernel
theorem dL_law_1606 : decode cL_law 1606 = .ok (.lstore 6, 2) := by decide +kernel
theorem dL_law_1608 : decode cL_law 1608 = .ok (.aload_n 2, 1) := by decide +kernel
theorem dL_law_1609 : decode cL_law 1609 = .ok (.invokevirtual 102, 3) := by decide +kernel
theorem dL_law_1612 : decode cL_law 1612 = .ok (.iload 5, 2) := by decide +kernel
theorem dL_law_1614 : decode cL_law 1614 = .ok (.if_icmp .eq 5, 3) := by decide +kernel
theorem dL_law_1617 : decode cL_law 1617 = .ok (.iconst 0, 1) := by decide +kernel
theorem dL_law_1618 : decode cL_law 1618 = .ok (.ireturn, 1) := by decide +kernel
theorem dL_law_1619 : decode cL_law 1619 = .ok (.iload 5, 2) := by decide +kernel
theorem dL_law_1621 : decode cL_law 1621 = .ok (.ifCond .ne 14, 3) := by decide +kernel
theorem dL_law_1624 : decode cL_law 1624 = .ok (.aload_n 3, 1) := by decide +kernel
theorem dL_law_1625 : decode cL_law 1625 = .ok (.iconst 0, 1) := by decide +kernel
theorem dL_law_1626 : decode cL_law 1626 = .ok (.laload, 1) := by decide +kernel
theorem dL_law_1627 : decode cL_law 1627 = .ok (.lload 6, 2) := by decide +kernel
theorem dL_law_1629 : decode cL_law 1629 = .ok (.lcmp, 1) := by decide +kernel
theorem dL_law_1630 : decode cL_law 1630 = .ok (.ifCond .eq 5, 3) := by decide +kernel
theorem dL_law_1633 : decode cL_law 1633 = .ok (.iconst 0, 1) := by decide +kernel
theorem dL_law_1634 : decode cL_law 1634 = .ok (.ireturn, 1) := by decide +kernel
theorem dL_law_1635 : decode cL_law 1635 = .ok (.goto 945, 3) := by decide +kernel
theorem dL_law_1638 : decode cL_law 1638 = .ok (.aload_n 1, 1) := by decide +kernel
theorem dL_law_1639 : decode cL_law 1639 = .ok (.aload_n 0, 1) := by decide +kernel
theorem dL_law_1640 : decode cL_law 1640 = .ok (.iload 4, 2) := by decide +kernel
theorem dL_law_1642 : decode cL_law 1642 = .ok (.iconst 1, 1) := by decide +kernel
theorem dL_law_1643 : decode cL_law 1643 = .ok (.iadd, 1) := by decide +kernel
theorem dL_law_1644 : decode cL_law 1644 = .ok (.iaload, 1) := by decide +kernel
theorem dL_law_1645 : decode cL_law 1645 = .ok (.aload_n 0, 1) := by decide +kernel
theorem dL_law_1646 : decode cL_law 1646 = .ok (.iload 4, 2) := by decide +kernel
theorem dL_law_1648 : decode cL_law 1648 = .ok (.iconst 2, 1) := by decide +kernel
theorem dL_law_1649 : decode cL_law 1649 = .ok (.iadd, 1) := by decide +kernel
theorem dL_law_1650 : decode cL_law 1650 = .ok (.iaload, 1) := by decide +kernel
theorem dL_law_1651 : decode cL_law 1651 = .ok (.aload_n 0, 1) := by decide +kernel
theorem dL_law_1652 : decode cL_law 1652 = .ok (.iload 4, 2) := by decide +kernel
theorem dL_law_1654 : decode cL_law 1654 = .ok (.iconst 3, 1) := by decide +kernel
theorem dL_law_1655 : decode cL_law 1655 = .ok (.iadd, 1) := by decide +kernel
theorem dL_law_1656 : decode cL_law 1656 = .ok (.iaload, 1) := by decide +kernel
theorem dL_law_1657 : decode cL_law 1657 = .ok (.aload_n 0, 1) := by decide +kernel
theorem dL_law_1658 : decode cL_law 1658 = .ok (.iload 4, 2) := by decide +kernel
theorem dL_law_1660 : decode cL_law 1660 = .ok (.iconst 4, 1) := by decide +kernel
theorem dL_law_1661 : decode cL_law 1661 = .ok (.iadd, 1) := by decide +kernel
theorem dL_law_1662 : decode cL_law 1662 = .ok (.iaload, 1) := by decide +kernel
theorem dL_law_1663 : decode cL_law 1663 = .ok (.aload_n 0, 1) := by decide +kernel
theorem dL_law_1664 : decode cL_law 1664 = .ok (.iload 4, 2) := by decide +kernel
theorem dL_law_1666 : decode cL_law 1666 = .ok (.iconst 5, 1) := by decide +kernel
theorem dL_law_1667 : decode cL_law 1667 = .ok (.iadd, 1) := by decide +kernel
theorem dL_law_1668 : decode cL_law 1668 = .ok (.iaload, 1) := by decide +kernel
theorem dL_law_1669 : decode cL_law 1669 = .ok (.aload_n 3, 1) := by decide +kernel
theorem dL_law_1670 : decode cL_law 1670 = .ok (.invokestatic 165, 3) := by decide +kernel
theorem dL_law_1673 : decode cL_law 1673 = .ok (.istore 5, 2) := by decide +kernel
theorem dL_law_1675 : decode cL_law 1675 = .ok (.aload_n 2, 1) := by decide +kernel
theorem dL_law_1676 : decode cL_law 1676 = .ok (.aload_n 0, 1) := by decide +kernel
theorem dL_law_1677 : decode cL_law 1677 = .ok (.iload 4, 2) := by decide +kernel
theorem dL_law_1679 : decode cL_law 1679 = .ok (.iconst 1, 1) := by decide +kernel
theorem dL_law_1680 : decode cL_law 1680 = .ok (.iadd, 1) := by decide +kernel
theorem dL_law_1681 : decode cL_law 1681 = .ok (.iaload, 1) := by decide +kernel
theorem dL_law_1682 : decode cL_law 1682 = .ok (.aload_n 0, 1) := by decide +kernel
theorem dL_law_1683 : decode cL_law 1683 = .ok (.iload 4, 2) := by decide +kernel
theorem dL_law_1685 : decode cL_law 1685 = .ok (.iconst 2, 1) := by decide +kernel
theorem dL_law_1686 : decode cL_law 1686 = .ok (.iadd, 1) := by decide +kernel
theorem dL_law_1687 : decode cL_law 1687 = .ok (.iaload, 1) := by decide +kernel
theorem dL_law_1688 : decode cL_law 1688 = .ok (.aload_n 0, 1) := by decide +kernel
theorem dL_law_1689 : decode cL_law 1689 = .ok (.iload 4, 2) := by decide +kernel
theorem dL_law_1691 : decode cL_law 1691 = .ok (.iconst 3, 1) := by decide +kernel
theorem dL_law_1692 : decode cL_law 1692 = .ok (.iadd, 1) := by decide +kernel
theorem dL_law_1693 : decode cL_law 1693 = .ok (.iaload, 1) := by decide +kernel
theorem dL_law_1694 : decode cL_law 1694 = .ok (.aload_n 0, 1) := by decide +kernel
theorem dL_law_1695 : decode cL_law 1695 = .ok (.iload 4, 2) := by decide +kernel
theorem dL_law_1697 : decode cL_law 1697 = .ok (.iconst 4, 1) := by decide +kernel
theorem dL_law_1698 : decode cL_law 1698 = .ok (.iadd, 1) := by decide +kernel
theorem dL_law_1699 : decode cL_law 1699 = .ok (.iaload, 1) := by decide +kernel
theorem dL_law_1700 : decode cL_law 1700 = .ok (.aload_n 0, 1) := by decide +kernel
theorem dL_law_1701 : decode cL_law 1701 = .ok (.iload 4, 2) := by decide +kernel
theorem dL_law_1703 : decode cL_law 1703 = .ok (.iconst 5, 1) := by decide +kernel
theorem dL_law_1704 : decode cL_law 1704 = .ok (.iadd, 1) := by decide +kernel
theorem dL_law_1705 : decode cL_law 1705 = .ok (.iaload, 1) := by decide +kernel
theorem dL_law_1706 : decode cL_law 1706 = .ok (.invokevirtual 167, 3) := by decide +kernel
theorem dL_law_1709 : decode cL_law 1709 = .ok (.lstore 6, 2) := by decide +kernel
theorem dL_law_1711 : decode cL_law 1711 = .ok (.aload_n 2, 1) := by decide +kernel
theorem dL_law_1712 : decode cL_law 1712 = .ok (.invokevirtual 102, 3) := by decide +kernel
theorem dL_law_1715 : decode cL_law 1715 = .ok (.iload 5, 2) := by decide +kernel
theorem dL_law_1717 : decode cL_law 1717 = .ok (.if_icmp .eq 5, 3) := by decide +kernel
theorem dL_law_1720 : decode cL_law 1720 = .ok (.iconst 0, 1) := by decide +kernel
theorem dL_law_1721 : decode cL_law 1721 = .ok (.ireturn, 1) := by decide +kernel
theorem dL_law_1722 : decode cL_law 1722 = .ok (.iload 5, 2) := by decide +kernel
theorem dL_law_1724 : decode cL_law 1724 = .ok (.ifCond .ne 14, 3) := by decide +kernel
theorem dL_law_1727 : decode cL_law 1727 = .ok (.aload_n 3, 1) := by decide +kernel
theorem dL_law_1728 : decode cL_law 1728 = .ok (.iconst 0, 1) := by decide +kernel
theorem dL_law_1729 : decode cL_law 1729 = .ok (.laload, 1) := by decide +kernel
theorem dL_law_1730 : decode cL_law 1730 = .ok (.lload 6, 2) := by decide +kernel
theorem dL_law_1732 : decode cL_law 1732 = .ok (.lcmp, 1) := by decide +kernel
theorem dL_law_1733 : decode cL_law 1733 = .ok (.ifCond .eq 5, 3) := by decide +kernel
theorem dL_law_1736 : decode cL_law 1736 = .ok (.iconst 0, 1) := by decide +kernel
theorem dL_law_1737 : decode cL_law 1737 = .ok (.ireturn, 1) := by decide +kernel
theorem dL_law_1738 : decode cL_law 1738 = .ok (.goto 842, 3) := by decide +kernel
theorem dL_law_1741 : decode cL_law 1741 = .ok (.aload_n 1, 1) := by decide +kernel
theorem dL_law_1742 : decode cL_law 1742 = .ok (.aload_n 0, 1) := by decide +kernel
theorem dL_law_1743 : decode cL_law 1743 = .ok (.iload 4, 2) := by decide +kernel
theorem dL_law_1745 : decode cL_law 1745 = .ok (.iconst 1, 1) := by decide +kernel
theorem dL_law_1746 : decode cL_law 1746 = .ok (.iadd, 1) := by decide +kernel
theorem dL_law_1747 : decode cL_law 1747 = .ok (.iaload, 1) := by decide +kernel
theorem dL_law_1748 : decode cL_law 1748 = .ok (.aload_n 0, 1) := by decide +kernel
theorem dL_law_1749 : decode cL_law 1749 = .ok (.iload 4, 2) := by decide +kernel
theorem dL_law_1751 : decode cL_law 1751 = .ok (.iconst 2, 1) := by decide +kernel
theorem dL_law_1752 : decode cL_law 1752 = .ok (.iadd, 1) := by decide +kernel
theorem dL_law_1753 : decode cL_law 1753 = .ok (.iaload, 1) := by decide +kernel
theorem dL_law_1754 : decode cL_law 1754 = .ok (.aload_n 0, 1) := by decide +kernel
theorem dL_law_1755 : decode cL_law 1755 = .ok (.iload 4, 2) := by decide +kernel
theorem dL_law_1757 : decode cL_law 1757 = .ok (.iconst 3, 1) := by decide +kernel
theorem dL_law_1758 : decode cL_law 1758 = .ok (.iadd, 1) := by decide +kernel
theorem dL_law_1759 : decode cL_law 1759 = .ok (.iaload, 1) := by decide +kernel
theorem dL_law_1760 : decode cL_law 1760 = .ok (.aload_n 0, 1) := by decide +kernel
theorem dL_law_1761 : decode cL_law 1761 = .ok (.iload 4, 2) := by decide +kernel
theorem dL_law_1763 : decode cL_law 1763 = .ok (.iconst 4, 1) := by decide +kernel
theorem dL_law_1764 : decode cL_law 1764 = .ok (.iadd, 1) := by decide +kernel
theorem dL_law_1765 : decode cL_law 1765 = .ok (.iaload, 1) := by decide +kernel
theorem dL_law_1766 : decode cL_law 1766 = .ok (.aload_n 0, 1) := by decide +kernel
theorem dL_law_1767 : decode cL_law 1767 = .ok (.iload 4, 2) := by decide +kernel
theorem dL_law_1769 : decode cL_law 1769 = .ok (.iconst 5, 1) := by decide +kernel
theorem dL_law_1770 : decode cL_law 1770 = .ok (.iadd, 1) := by decide +kernel
theorem dL_law_1771 : decode cL_law 1771 = .ok (.iaload, 1) := by decide +kernel
theorem dL_law_1772 : decode cL_law 1772 = .ok (.aload_n 0, 1) := by decide +kernel
theorem dL_law_1773 : decode cL_law 1773 = .ok (.iload 4, 2) := by decide +kernel
theorem dL_law_1775 : decode cL_law 1775 = .ok (.bipush 6, 2) := by decide +kernel
theorem dL_law_1777 : decode cL_law 1777 = .ok (.iadd, 1) := by decide +kernel
theorem dL_law_1778 : decode cL_law 1778 = .ok (.iaload, 1) := by decide +kernel
theorem dL_law_1779 : decode cL_law 1779 = .ok (.aload_n 3, 1) := by decide +kernel
theorem dL_law_1780 : decode cL_law 1780 = .ok (.invokestatic 168, 3) := by decide +kernel
theorem dL_law_1783 : decode cL_law 1783 = .ok (.istore 5, 2) := by decide +kernel
theorem dL_law_1785 : decode cL_law 1785 = .ok (.aload_n 2, 1) := by decide +kernel
theorem dL_law_1786 : decode cL_law 1786 = .ok (.aload_n 0, 1) := by decide +kernel
theorem dL_law_1787 : decode cL_law 1787 = .ok (.iload 4, 2) := by decide +kernel
theorem dL_law_1789 : decode cL_law 1789 = .ok (.iconst 1, 1) := by decide +kernel
theorem dL_law_1790 : decode cL_law 1790 = .ok (.iadd, 1) := by decide +kernel
theorem dL_law_1791 : decode cL_law 1791 = .ok (.iaload, 1) := by decide +kernel
theorem dL_law_1792 : decode cL_law 1792 = .ok (.aload_n 0, 1) := by decide +kernel
theorem dL_law_1793 : decode cL_law 1793 = .ok (.iload 4, 2) := by decide +kernel
theorem dL_law_1795 : decode cL_law 1795 = .ok (.iconst 2, 1) := by decide +kernel
theorem dL_law_1796 : decode cL_law 1796 = .ok (.iadd, 1) := by decide +kernel
theorem dL_law_1797 : decode cL_law 1797 = .ok (.iaload, 1) := by decide +kernel
theorem dL_law_1798 : decode cL_law 1798 = .ok (.aload_n 0, 1) := by decide +kernel
theorem dL_law_1799 : decode cL_law 1799 = .ok (.iload 4, 2) := by decide +kernel
theorem dL_law_1801 : decode cL_law 1801 = .ok (.iconst 3, 1) := by decide +kernel
theorem dL_law_1802 : decode cL_law 1802 = .ok (.iadd, 1) := by decide +kernel
theorem dL_law_1803 : decode cL_law 1803 = .ok (.iaload, 1) := by decide +kernel
theorem dL_law_1804 : decode cL_law 1804 = .ok (.aload_n 0, 1) := by decide +kernel
theorem dL_law_1805 : decode cL_law 1805 = .ok (.iload 4, 2) := by decide +kernel
theorem dL_law_1807 : decode cL_law 1807 = .ok (.iconst 4, 1) := by decide +kernel
theorem dL_law_1808 : decode cL_law 1808 = .ok (.iadd, 1) := by decide +kernel
theorem dL_law_1809 : decode cL_law 1809 = .ok (.iaload, 1) := by decide +kernel
theorem dL_law_1810 : decode cL_law 1810 = .ok (.aload_n 0, 1) := by decide +kernel
theorem dL_law_1811 : decode cL_law 1811 = .ok (.iload 4, 2) := by decide +kernel
theorem dL_law_1813 : decode cL_law 1813 = .ok (.iconst 5, 1) := by decide +kernel
theorem dL_law_1814 : decode cL_law 1814 = .ok (.iadd, 1) := by decide +kernel
theorem dL_law_1815 : decode cL_law 1815 = .ok (.iaload, 1) := by decide +kernel
theorem dL_law_1816 : decode cL_law 1816 = .ok (.aload_n 0, 1) := by decide +kernel
theorem dL_law_1817 : decode cL_law 1817 = .ok (.iload 4, 2) := by decide +kernel
theorem dL_law_1819 : decode cL_law 1819 = .ok (.bipush 6, 2) := by decide +kernel
theorem dL_law_1821 : decode cL_law 1821 = .ok (.iadd, 1) := by decide +kernel
theorem dL_law_1822 : decode cL_law 1822 = .ok (.iaload, 1) := by decide +kernel
theorem dL_law_1823 : decode cL_law 1823 = .ok (.invokevirtual 171, 3) := by decide +kernel
theorem dL_law_1826 : decode cL_law 1826 = .ok (.lstore 6, 2) := by decide +kernel
theorem dL_law_1828 : decode cL_law 1828 = .ok (.aload_n 2, 1) := by decide +kernel
theorem dL_law_1829 : decode cL_law 1829 = .ok (.invokevirtual 102, 3) := by decide +kernel
theorem dL_law_1832 : decode cL_law 1832 = .ok (.iload 5, 2) := by decide +kernel
theorem dL_law_1834 : decode cL_law 1834 = .ok (.if_icmp .eq 5, 3) := by decide +kernel
theorem dL_law_1837 : decode cL_law 1837 = .ok (.iconst 0, 1) := by decide +kernel
theorem dL_law_1838 : decode cL_law 1838 = .ok (.ireturn, 1) := by decide +kernel
theorem dL_law_1839 : decode cL_law 1839 = .ok (.iload 5, 2) := by decide +kernel
theorem dL_law_1841 : decode cL_law 1841 = .ok (.ifCond .ne 14, 3) := by decide +kernel
theorem dL_law_1844 : decode cL_law 1844 = .ok (.aload_n 3, 1) := by decide +kernel
theorem dL_law_1845 : decode cL_law 1845 = .ok (.iconst 0, 1) := by decide +kernel
theorem dL_law_1846 : decode cL_law 1846 = .ok (.laload, 1) := by decide +kernel
theorem dL_law_1847 : decode cL_law 1847 = .ok (.lload 6, 2) := by decide +kernel
theorem dL_law_1849 : decode cL_law 1849 = .ok (.lcmp, 1) := by decide +kernel
theorem dL_law_1850 : decode cL_law 1850 = .ok (.ifCond .eq 5, 3) := by decide +kernel
theorem dL_law_1853 : decode cL_law 1853 = .ok (.iconst 0, 1) := by decide +kernel
theorem dL_law_1854 : decode cL_law 1854 = .ok (.ireturn, 1) := by decide +kernel
theorem dL_law_1855 : decode cL_law 1855 = .ok (.goto 725, 3) := by decide +kernel
theorem dL_law_1858 : decode cL_law 1858 = .ok (.aload_n 1, 1) := by decide +kernel
theorem dL_law_1859 : decode cL_law 1859 = .ok (.aload_n 0, 1) := by decide +kernel
theorem dL_law_1860 : decode cL_law 1860 = .ok (.iload 4, 2) := by decide +kernel
theorem dL_law_1862 : decode cL_law 1862 = .ok (.iconst 1, 1) := by decide +kernel
theorem dL_law_1863 : decode cL_law 1863 = .ok (.iadd, 1) := by decide +kernel
theorem dL_law_1864 : decode cL_law 1864 = .ok (.iaload, 1) := by decide +kernel
theorem dL_law_1865 : decode cL_law 1865 = .ok (.aload_n 0, 1) := by decide +kernel
theorem dL_law_1866 : decode cL_law 1866 = .ok (.iload 4, 2) := by decide +kernel
theorem dL_law_1868 : decode cL_law 1868 = .ok (.iconst 2, 1) := by decide +kernel
theorem dL_law_1869 : decode cL_law 1869 = .ok (.iadd, 1) := by decide +kernel
theorem dL_law_1870 : decode cL_law 1870 = .ok (.iaload, 1) := by decide +kernel
theorem dL_law_1871 : decode cL_law 1871 = .ok (.aload_n 0, 1) := by decide +kernel
theorem dL_law_1872 : decode cL_law 1872 = .ok (.iload 4, 2) := by decide +kernel
theorem dL_law_1874 : decode cL_law 1874 = .ok (.iconst 3, 1) := by decide +kernel
theorem dL_law_1875 : decode cL_law 1875 = .ok (.iadd, 1) := by decide +kernel
theorem dL_law_1876 : decode cL_law 1876 = .ok (.iaload, 1) := by decide +kernel
theorem dL_law_1877 : decode cL_law 1877 = .ok (.aload_n 0, 1) := by decide +kernel
theorem dL_law_1878 : decode cL_law 1878 = .ok (.iload 4, 2) := by decide +kernel
theorem dL_law_1880 : decode cL_law 1880 = .ok (.iconst 4, 1) := by decide +kernel
theorem dL_law_1881 : decode cL_law 1881 = .ok (.iadd, 1) := by decide +kernel
theorem dL_law_1882 : decode cL_law 1882 = .ok (.iaload, 1) := by decide +kernel
theorem dL_law_1883 : decode cL_law 1883 = .ok (.aload_n 3, 1) := by decide +kernel
theorem dL_law_1884 : decode cL_law 1884 = .ok (.invokestatic 172, 3) := by decide +kernel
theorem dL_law_1887 : decode cL_law 1887 = .ok (.istore 5, 2) := by decide +kernel
theorem dL_law_1889 : decode cL_law 1889 = .ok (.aload_n 2, 1) := by decide +kernel
theorem dL_law_1890 : decode cL_law 1890 = .ok (.aload_n 0, 1) := by decide +kernel
theorem dL_law_1891 : decode cL_law 1891 = .ok (.iload 4, 2) := by decide +kernel
theorem dL_law_1893 : decode cL_law 1893 = .ok (.iconst 1, 1) := by decide +kernel
theorem dL_law_1894 : decode cL_law 1894 = .ok (.iadd, 1) := by decide +kernel
theorem dL_law_1895 : decode cL_law 1895 = .ok (.iaload, 1) := by decide +kernel
theorem dL_law_1896 : decode cL_law 1896 = .ok (.aload_n 0, 1) := by decide +kernel
theorem dL_law_1897 : decode cL_law 1897 = .ok (.iload 4, 2) := by decide +kernel
theorem dL_law_1899 : decode cL_law 1899 = .ok (.iconst 2, 1) := by decide +kernel
theorem dL_law_1900 : decode cL_law 1900 = .ok (.iadd, 1) := by decide +kernel
theorem dL_law_1901 : decode cL_law 1901 = .ok (.iaload, 1) := by decide +kernel
theorem dL_law_1902 : decode cL_law 1902 = .ok (.aload_n 0, 1) := by decide +kernel
theorem dL_law_1903 : decode cL_law 1903 = .ok (.iload 4, 2) := by decide +kernel
theorem dL_law_1905 : decode cL_law 1905 = .ok (.iconst 3, 1) := by decide +kernel
theorem dL_law_1906 : decode cL_law 1906 = .ok (.iadd, 1) := by decide +kernel
theorem dL_law_1907 : decode cL_law 1907 = .ok (.iaload, 1) := by decide +kernel
theorem dL_law_1908 : decode cL_law 1908 = .ok (.aload_n 0, 1) := by decide +kernel
theorem dL_law_1909 : decode cL_law 1909 = .ok (.iload 4, 2) := by decide +kernel
theorem dL_law_1911 : decode cL_law 1911 = .ok (.iconst 4, 1) := by decide +kernel
theorem dL_law_1912 : decode cL_law 1912 = .ok (.iadd, 1) := by decide +kernel
theorem dL_law_1913 : decode cL_law 1913 = .ok (.iaload, 1) := by decide +kernel
theorem dL_law_1914 : decode cL_law 1914 = .ok (.invokevirtual 174, 3) := by decide +kernel
theorem dL_law_1917 : decode cL_law 1917 = .ok (.istore 6, 2) := by decide +kernel
theorem dL_law_1919 : decode cL_law 1919 = .ok (.aload_n 2, 1) := by decide +kernel
theorem dL_law_1920 : decode cL_law 1920 = .ok (.invokevirtual 102, 3) := by decide +kernel
theorem dL_law_1923 : decode cL_law 1923 = .ok (.iload 5, 2) := by decide +kernel
theorem dL_law_1925 : decode cL_law 1925 = .ok (.if_icmp .eq 5, 3) := by decide +kernel
theorem dL_law_1928 : decode cL_law 1928 = .ok (.iconst 0, 1) := by decide +kernel
theorem dL_law_1929 : decode cL_law 1929 = .ok (.ireturn, 1) := by decide +kernel
theorem dL_law_1930 : decode cL_law 1930 = .ok (.iload 5, 2) := by decide +kernel
theorem dL_law_1932 : decode cL_law 1932 = .ok (.ifCond .ne 15, 3) := by decide +kernel
theorem dL_law_1935 : decode cL_law 1935 = .ok (.aload_n 3, 1) := by decide +kernel
theorem dL_law_1936 : decode cL_law 1936 = .ok (.iconst 0, 1) := by decide +kernel
theorem dL_law_1937 : decode cL_law 1937 = .ok (.laload, 1) := by decide +kernel
theorem dL_law_1938 : decode cL_law 1938 = .ok (.iload 6, 2) := by decide +kernel
theorem dL_law_1940 : decode cL_law 1940 = .ok (.i2l, 1) := by decide +kernel
theorem dL_law_1941 : decode cL_law 1941 = .ok (.lcmp, 1) := by decide +kernel
theorem dL_law_1942 : decode cL_law 1942 = .ok (.ifCond .eq 5, 3) := by decide +kernel
theorem dL_law_1945 : decode cL_law 1945 = .ok (.iconst 0, 1) := by decide +kernel
theorem dL_law_1946 : decode cL_law 1946 = .ok (.ireturn, 1) := by decide +kernel
theorem dL_law_1947 : decode cL_law 1947 = .ok (.goto 633, 3) := by decide +kernel
theorem dL_law_1950 : decode cL_law 1950 = .ok (.aload_n 1, 1) := by decide +kernel
theorem dL_law_1951 : decode cL_law 1951 = .ok (.aload_n 0, 1) := by decide +kernel
theorem dL_law_1952 : decode cL_law 1952 = .ok (.iload 4, 2) := by decide +kernel
theorem dL_law_1954 : decode cL_law 1954 = .ok (.iconst 1, 1) := by decide +kernel
theorem dL_law_1955 : decode cL_law 1955 = .ok (.iadd, 1) := by decide +kernel
theorem dL_law_1956 : decode cL_law 1956 = .ok (.iaload, 1) := by decide +kernel
theorem dL_law_1957 : decode cL_law 1957 = .ok (.aload_n 0, 1) := by decide +kernel
theorem dL_law_1958 : decode cL_law 1958 = .ok (.iload 4, 2) := by decide +kernel
theorem dL_law_1960 : decode cL_law 1960 = .ok (.iconst 2, 1) := by decide +kernel
theorem dL_law_1961 : decode cL_law 1961 = .ok (.iadd, 1) := by decide +kernel
theorem dL_law_1962 : decode cL_law 1962 = .ok (.iaload, 1) := by decide +kernel
theorem dL_law_1963 : decode cL_law 1963 = .ok (.aload_n 0, 1) := by decide +kernel
theorem dL_law_1964 : decode cL_law 1964 = .ok (.iload 4, 2) := by decide +kernel
theorem dL_law_1966 : decode cL_law 1966 = .ok (.iconst 3, 1) := by decide +kernel
theorem dL_law_1967 : decode cL_law 1967 = .ok (.iadd, 1) := by decide +kernel
theorem dL_law_1968 : decode cL_law 1968 = .ok (.iaload, 1) := by decide +kernel
theorem dL_law_1969 : decode cL_law 1969 = .ok (.aload_n 3, 1) := by decide +kernel
theorem dL_law_1970 : decode cL_law 1970 = .ok (.invokestatic 175, 3) := by decide +kernel
theorem dL_law_1973 : decode cL_law 1973 = .ok (.istore 5, 2) := by decide +kernel
theorem dL_law_1975 : decode cL_law 1975 = .ok (.aload_n 2, 1) := by decide +kernel
theorem dL_law_1976 : decode cL_law 1976 = .ok (.aload_n 0, 1) := by decide +kernel
theorem dL_law_1977 : decode cL_law 1977 = .ok (.iload 4, 2) := by decide +kernel
theorem dL_law_1979 : decode cL_law 1979 = .ok (.iconst 1, 1) := by decide +kernel
theorem dL_law_1980 : decode cL_law 1980 = .ok (.iadd, 1) := by decide +kernel
theorem dL_law_1981 : decode cL_law 1981 = .ok (.iaload, 1) := by decide +kernel
theorem dL_law_1982 : decode cL_law 1982 = .ok (.aload_n 0, 1) := by decide +kernel
theorem dL_law_1983 : decode cL_law 1983 = .ok (.iload 4, 2) := by decide +kernel
theorem dL_law_1985 : decode cL_law 1985 = .ok (.iconst 2, 1) := by decide +kernel
theorem dL_law_1986 : decode cL_law 1986 = .ok (.iadd, 1) := by decide +kernel
theorem dL_law_1987 : decode cL_law 1987 = .ok (.iaload, 1) := by decide +kernel
theorem dL_law_1988 : decode cL_law 1988 = .ok (.aload_n 0, 1) := by decide +kernel
theorem dL_law_1989 : decode cL_law 1989 = .ok (.iload 4, 2) := by decide +kernel
theorem dL_law_1991 : decode cL_law 1991 = .ok (.iconst 3, 1) := by decide +kernel
theorem dL_law_1992 : decode cL_law 1992 = .ok (.iadd, 1) := by decide +kernel
theorem dL_law_1993 : decode cL_law 1993 = .ok (.iaload, 1) := by decide +kernel
theorem dL_law_1994 : decode cL_law 1994 = .ok (.invokevirtual 177, 3) := by decide +kernel
theorem dL_law_1997 : decode cL_law 1997 = .ok (.istore 6, 2) := by decide +kernel
theorem dL_law_1999 : decode cL_law 1999 = .ok (.aload_n 2, 1) := by decide +kernel
theorem dL_law_2000 : decode cL_law 2000 = .ok (.invokevirtual 102, 3) := by decide +kernel
theorem dL_law_2003 : decode cL_law 2003 = .ok (.iload 5, 2) := by decide +kernel
theorem dL_law_2005 : decode cL_law 2005 = .ok (.if_icmp .eq 5, 3) := by decide +kernel
theorem dL_law_2008 : decode cL_law 2008 = .ok (.iconst 0, 1) := by decide +kernel
theorem dL_law_2009 : decode cL_law 2009 = .ok (.ireturn, 1) := by decide +kernel
theorem dL_law_2010 : decode cL_law 2010 = .ok (.iload 5, 2) := by decide +kernel
theorem dL_law_2012 : decode cL_law 2012 = .ok (.ifCond .ne 15, 3) := by decide +kernel
theorem dL_law_2015 : decode cL_law 2015 = .ok (.aload_n 3, 1) := by decide +kernel
theorem dL_law_2016 : decode cL_law 2016 = .ok (.iconst 0, 1) := by decide +kernel
theorem dL_law_2017 : decode cL_law 2017 = .ok (.laload, 1) := by decide +kernel
theorem dL_law_2018 : decode cL_law 2018 = .ok (.iload 6, 2) := by decide +kernel
theorem dL_law_2020 : decode cL_law 2020 = .ok (.i2l, 1) := by decide +kernel
theorem dL_law_2021 : decode cL_law 2021 = .ok (.lcmp, 1) := by decide +kernel
theorem dL_law_2022 : decode cL_law 2022 = .ok (.ifCond .eq 5, 3) := by decide +kernel
theorem dL_law_2025 : decode cL_law 2025 = .ok (.iconst 0, 1) := by decide +kernel
theorem dL_law_2026 : decode cL_law 2026 = .ok (.ireturn, 1) := by decide +kernel
theorem dL_law_2027 : decode cL_law 2027 = .ok (.goto 553, 3) := by decide +kernel
theorem dL_law_2030 : decode cL_law 2030 = .ok (.aload_n 1, 1) := by decide +kernel
theorem dL_law_2031 : decode cL_law 2031 = .ok (.aload_n 0, 1) := by decide +kernel
theorem dL_law_2032 : decode cL_law 2032 = .ok (.iload 4, 2) := by decide +kernel
theorem dL_law_2034 : decode cL_law 2034 = .ok (.iconst 1, 1) := by decide +kernel
theorem dL_law_2035 : decode cL_law 2035 = .ok (.iadd, 1) := by decide +kernel
theorem dL_law_2036 : decode cL_law 2036 = .ok (.iaload, 1) := by decide +kernel
theorem dL_law_2037 : decode cL_law 2037 = .ok (.aload_n 0, 1) := by decide +kernel
theorem dL_law_2038 : decode cL_law 2038 = .ok (.iload 4, 2) := by decide +kernel
theorem dL_law_2040 : decode cL_law 2040 = .ok (.iconst 2, 1) := by decide +kernel
theorem dL_law_2041 : decode cL_law 2041 = .ok (.iadd, 1) := by decide +kernel
theorem dL_law_2042 : decode cL_law 2042 = .ok (.iaload, 1) := by decide +kernel
theorem dL_law_2043 : decode cL_law 2043 = .ok (.aload_n 0, 1) := by decide +kernel
theorem dL_law_2044 : decode cL_law 2044 = .ok (.iload 4, 2) := by decide +kernel
theorem dL_law_2046 : decode cL_law 2046 = .ok (.iconst 3, 1) := by decide +kernel
theorem dL_law_2047 : decode cL_law 2047 = .ok (.iadd, 1) := by decide +kernel
theorem dL_law_2048 : decode cL_law 2048 = .ok (.iaload, 1) := by decide +kernel
theorem dL_law_2049 : decode cL_law 2049 = .ok (.aload_n 3, 1) := by decide +kernel
theorem dL_law_2050 : decode cL_law 2050 = .ok (.invokestatic 178, 3) := by decide +kernel
theorem dL_law_2053 : decode cL_law 2053 = .ok (.istore 5, 2) := by decide +kernel
theorem dL_law_2055 : decode cL_law 2055 = .ok (.aload_n 2, 1) := by decide +kernel
