theorem dL_law_2056 : decode cL_law 2056 = .ok (.aload_n 0, 1) := by decide +kernel
theorem dL_law_2057 : decode cL_law 2057 = .ok (.iload 4, 2) := by decide +kernel
theorem dL_law_2059 : decode cL_law 2059 = .ok (.iconst 1, 1) := by decide +kernel
theorem dL_law_2060 : decode cL_law 2060 = .ok (.iadd, 1) := by decide +kernel
theorem dL_law_2061 : decode cL_law 2061 = .ok (.iaload, 1) := by decide +kernel
theorem dL_law_2062 : decode cL_law 2062 = .ok (.aload_n 0, 1) := by decide +kernel
theorem dL_law_2063 : decode cL_law 2063 = .ok (.iload 4, 2) := by decide +kernel
theorem dL_law_2065 : decode cL_law 2065 = .ok (.iconst 2, 1) := by decide +kernel
theorem dL_law_2066 : decode cL_law 2066 = .ok (.iadd, 1) := by decide +kernel
theorem dL_law_2067 : decode cL_law 2067 = .ok (.iaload, 1) := by decide +kernel
theorem dL_law_2068 : decode cL_law 2068 = .ok (.aload_n 0, 1) := by decide +kernel
theorem dL_law_2069 : decode cL_law 2069 = .ok (.iload 4, 2) := by decide +kernel
theorem dL_law_2071 : decode cL_law 2071 = .ok (.iconst 3, 1) := by decide +kernel
theorem dL_law_2072 : decode cL_law 2072 = .ok (.iadd, 1) := by decide +kernel
theorem dL_law_2073 : decode cL_law 2073 = .ok (.iaload, 1) := by decide +kernel
theorem dL_law_2074 : decode cL_law 2074 = .ok (.invokevirtual 180, 3) := by decide +kernel
theorem dL_law_2077 : decode cL_law 2077 = .ok (.istore 6, 2) := by decide +kernel
theorem dL_law_2079 : decode cL_law 2079 = .ok (.aload_n 2, 1) := by decide +kernel
theorem dL_law_2080 : decode cL_law 2080 = .ok (.invokevirtual 102, 3) := by decide +kernel
theorem dL_law_2083 : decode cL_law 2083 = .ok (.iload 5, 2) := by decide +kernel
theorem dL_law_2085 : decode cL_law 2085 = .ok (.if_icmp .eq 5, 3) := by decide +kernel
theorem dL_law_2088 : decode cL_law 2088 = .ok (.iconst 0, 1) := by decide +kernel
theorem dL_law_2089 : decode cL_law 2089 = .ok (.ireturn, 1) := by decide +kernel
theorem dL_law_2090 : decode cL_law 2090 = .ok (.iload 5, 2) := by decide +kernel
theorem dL_law_2092 : decode cL_law 2092 = .ok (.ifCond .ne 15, 3) := by decide +kernel
theorem dL_law_2095 : decode cL_law 2095 = .ok (.aload_n 3, 1) := by decide +kernel
theorem dL_law_2096 : decode cL_law 2096 = .ok (.iconst 0, 1) := by decide +kernel
theorem dL_law_2097 : decode cL_law 2097 = .ok (.laload, 1) := by decide +kernel
theorem dL_law_2098 : decode cL_law 2098 = .ok (.iload 6, 2) := by decide +kernel
theorem dL_law_2100 : decode cL_law 2100 = .ok (.i2l, 1) := by decide +kernel
theorem dL_law_2101 : decode cL_law 2101 = .ok (.lcmp, 1) := by decide +kernel
theorem dL_law_2102 : decode cL_law 2102 = .ok (.ifCond .eq 5, 3) := by decide +kernel
theorem dL_law_2105 : decode cL_law 2105 = .ok (.iconst 0, 1) := by decide +kernel
theorem dL_law_2106 : decode cL_law 2106 = .ok (.ireturn, 1) := by decide +kernel
theorem dL_law_2107 : decode cL_law 2107 = .ok (.goto 473, 3) := by decide +kernel
theorem dL_law_2110 : decode cL_law 2110 = .ok (.aload_n 1, 1) := by decide +kernel
theorem dL_law_2111 : decode cL_law 2111 = .ok (.aload_n 0, 1) := by decide +kernel
theorem dL_law_2112 : decode cL_law 2112 = .ok (.iload 4, 2) := by decide +kernel
theorem dL_law_2114 : decode cL_law 2114 = .ok (.iconst 1, 1) := by decide +kernel
theorem dL_law_2115 : decode cL_law 2115 = .ok (.iadd, 1) := by decide +kernel
theorem dL_law_2116 : decode cL_law 2116 = .ok (.iaload, 1) := by decide +kernel
theorem dL_law_2117 : decode cL_law 2117 = .ok (.invokevirtual 181, 3) := by decide +kernel
theorem dL_law_2120 : decode cL_law 2120 = .ok (.aload_n 2, 1) := by decide +kernel
theorem dL_law_2121 : decode cL_law 2121 = .ok (.aload_n 0, 1) := by decide +kernel
theorem dL_law_2122 : decode cL_law 2122 = .ok (.iload 4, 2) := by decide +kernel
theorem dL_law_2124 : decode cL_law 2124 = .ok (.iconst 1, 1) := by decide +kernel
theorem dL_law_2125 : decode cL_law 2125 = .ok (.iadd, 1) := by decide +kernel
theorem dL_law_2126 : decode cL_law 2126 = .ok (.iaload, 1) := by decide +kernel
theorem dL_law_2127 : decode cL_law 2127 = .ok (.invokevirtual 184, 3) := by decide +kernel
theorem dL_law_2130 : decode cL_law 2130 = .ok (.if_icmp .eq 450, 3) := by decide +kernel
theorem dL_law_2133 : decode cL_law 2133 = .ok (.iconst 0, 1) := by decide +kernel
theorem dL_law_2134 : decode cL_law 2134 = .ok (.ireturn, 1) := by decide +kernel
theorem dL_law_2135 : decode cL_law 2135 = .ok (.aload_n 1, 1) := by decide +kernel
theorem dL_law_2136 : decode cL_law 2136 = .ok (.aload_n 0, 1) := by decide +kernel
theorem dL_law_2137 : decode cL_law 2137 = .ok (.iload 4, 2) := by decide +kernel
theorem dL_law_2139 : decode cL_law 2139 = .ok (.iconst 1, 1) := by decide +kernel
theorem dL_law_2140 : decode cL_law 2140 = .ok (.iadd, 1) := by decide +kernel
theorem dL_law_2141 : decode cL_law 2141 = .ok (.iaload, 1) := by decide +kernel
theorem dL_law_2142 : decode cL_law 2142 = .ok (.invokevirtual 185, 3) := by decide +kernel
theorem dL_law_2145 : decode cL_law 2145 = .ok (.aload_n 2, 1) := by decide +kernel
theorem dL_law_2146 : decode cL_law 2146 = .ok (.aload_n 0, 1) := by decide +kernel
theorem dL_law_2147 : decode cL_law 2147 = .ok (.iload 4, 2) := by decide +kernel
theorem dL_law_2149 : decode cL_law 2149 = .ok (.iconst 1, 1) := by decide +kernel
theorem dL_law_2150 : decode cL_law 2150 = .ok (.iadd, 1) := by decide +kernel
theorem dL_law_2151 : decode cL_law 2151 = .ok (.iaload, 1) := by decide +kernel
theorem dL_law_2152 : decode cL_law 2152 = .ok (.invokevirtual 188, 3) := by decide +kernel
theorem dL_law_2155 : decode cL_law 2155 = .ok (.if_icmp .eq 425, 3) := by decide +kernel
theorem dL_law_2158 : decode cL_law 2158 = .ok (.iconst 0, 1) := by decide +kernel
theorem dL_law_2159 : decode cL_law 2159 = .ok (.ireturn, 1) := by decide +kernel
theorem dL_law_2160 : decode cL_law 2160 = .ok (.aload_n 1, 1) := by decide +kernel
theorem dL_law_2161 : decode cL_law 2161 = .ok (.aload_n 0, 1) := by decide +kernel
theorem dL_law_2162 : decode cL_law 2162 = .ok (.iload 4, 2) := by decide +kernel
theorem dL_law_2164 : decode cL_law 2164 = .ok (.iconst 1, 1) := by decide +kernel
theorem dL_law_2165 : decode cL_law 2165 = .ok (.iadd, 1) := by decide +kernel
theorem dL_law_2166 : decode cL_law 2166 = .ok (.iaload, 1) := by decide +kernel
theorem dL_law_2167 : decode cL_law 2167 = .ok (.aload_n 0, 1) := by decide +kernel
theorem dL_law_2168 : decode cL_law 2168 = .ok (.iload 4, 2) := by decide +kernel
theorem dL_law_2170 : decode cL_law 2170 = .ok (.iconst 2, 1) := by decide +kernel
theorem dL_law_2171 : decode cL_law 2171 = .ok (.iadd, 1) := by decide +kernel
theorem dL_law_2172 : decode cL_law 2172 = .ok (.iaload, 1) := by decide +kernel
theorem dL_law_2173 : decode cL_law 2173 = .ok (.invokevirtual 189, 3) := by decide +kernel
theorem dL_law_2176 : decode cL_law 2176 = .ok (.aload_n 2, 1) := by decide +kernel
theorem dL_law_2177 : decode cL_law 2177 = .ok (.aload_n 0, 1) := by decide +kernel
theorem dL_law_2178 : decode cL_law 2178 = .ok (.iload 4, 2) := by decide +kernel
theorem dL_law_2180 : decode cL_law 2180 = .ok (.iconst 1, 1) := by decide +kernel
theorem dL_law_2181 : decode cL_law 2181 = .ok (.iadd, 1) := by decide +kernel
theorem dL_law_2182 : decode cL_law 2182 = .ok (.iaload, 1) := by decide +kernel
theorem dL_law_2183 : decode cL_law 2183 = .ok (.aload_n 0, 1) := by decide +kernel
theorem dL_law_2184 : decode cL_law 2184 = .ok (.iload 4, 2) := by decide +kernel
theorem dL_law_2186 : decode cL_law 2186 = .ok (.iconst 2, 1) := by decide +kernel
theorem dL_law_2187 : decode cL_law 2187 = .ok (.iadd, 1) := by decide +kernel
theorem dL_law_2188 : decode cL_law 2188 = .ok (.iaload, 1) := by decide +kernel
theorem dL_law_2189 : decode cL_law 2189 = .ok (.invokevirtual 192, 3) := by decide +kernel
theorem dL_law_2192 : decode cL_law 2192 = .ok (.if_icmp .eq 388, 3) := by decide +kernel
theorem dL_law_2195 : decode cL_law 2195 = .ok (.iconst 0, 1) := by decide +kernel
theorem dL_law_2196 : decode cL_law 2196 = .ok (.ireturn, 1) := by decide +kernel
theorem dL_law_2197 : decode cL_law 2197 = .ok (.aload_n 1, 1) := by decide +kernel
theorem dL_law_2198 : decode cL_law 2198 = .ok (.aload_n 0, 1) := by decide +kernel
theorem dL_law_2199 : decode cL_law 2199 = .ok (.iload 4, 2) := by decide +kernel
theorem dL_law_2201 : decode cL_law 2201 = .ok (.iconst 1, 1) := by decide +kernel
theorem dL_law_2202 : decode cL_law 2202 = .ok (.iadd, 1) := by decide +kernel
theorem dL_law_2203 : decode cL_law 2203 = .ok (.iaload, 1) := by decide +kernel
theorem dL_law_2204 : decode cL_law 2204 = .ok (.aload_n 0, 1) := by decide +kernel
theorem dL_law_2205 : decode cL_law 2205 = .ok (.iload 4, 2) := by decide +kernel
theorem dL_law_2207 : decode cL_law 2207 = .ok (.iconst 2, 1) := by decide +kernel
theorem dL_law_2208 : decode cL_law 2208 = .ok (.iadd, 1) := by decide +kernel
theorem dL_law_2209 : decode cL_law 2209 = .ok (.iaload, 1) := by decide +kernel
theorem dL_law_2210 : decode cL_law 2210 = .ok (.invokevirtual 193, 3) := by decide +kernel
theorem dL_law_2213 : decode cL_law 2213 = .ok (.aload_n 2, 1) := by decide +kernel
theorem dL_law_2214 : decode cL_law 2214 = .ok (.aload_n 0, 1) := by decide +kernel
theorem dL_law_2215 : decode cL_law 2215 = .ok (.iload 4, 2) := by decide +kernel
theorem dL_law_2217 : decode cL_law 2217 = .ok (.iconst 1, 1) := by decide +kernel
theorem dL_law_2218 : decode cL_law 2218 = .ok (.iadd, 1) := by decide +kernel
theorem dL_law_2219 : decode cL_law 2219 = .ok (.iaload, 1) := by decide +kernel
theorem dL_law_2220 : decode cL_law 2220 = .ok (.aload_n 0, 1) := by decide +kernel
theorem dL_law_2221 : decode cL_law 2221 = .ok (.iload 4, 2) := by decide +kernel
theorem dL_law_2223 : decode cL_law 2223 = .ok (.iconst 2, 1) := by decide +kernel
theorem dL_law_2224 : decode cL_law 2224 = .ok (.iadd, 1) := by decide +kernel
theorem dL_law_2225 : decode cL_law 2225 = .ok (.iaload, 1) := by decide +kernel
theorem dL_law_2226 : decode cL_law 2226 = .ok (.invokevirtual 196, 3) := by decide +kernel
theorem dL_law_2229 : decode cL_law 2229 = .ok (.if_icmp .eq 351, 3) := by decide +kernel
theorem dL_law_2232 : decode cL_law 2232 = .ok (.iconst 0, 1) := by decide +kernel
theorem dL_law_2233 : decode cL_law 2233 = .ok (.ireturn, 1) := by decide +kernel
theorem dL_law_2234 : decode cL_law 2234 = .ok (.aload_n 1, 1) := by decide +kernel
theorem dL_law_2235 : decode cL_law 2235 = .ok (.aload_n 0, 1) := by decide +kernel
theorem dL_law_2236 : decode cL_law 2236 = .ok (.iload 4, 2) := by decide +kernel
theorem dL_law_2238 : decode cL_law 2238 = .ok (.iconst 1, 1) := by decide +kernel
theorem dL_law_2239 : decode cL_law 2239 = .ok (.iadd, 1) := by decide +kernel
theorem dL_law_2240 : decode cL_law 2240 = .ok (.iaload, 1) := by decide +kernel
theorem dL_law_2241 : decode cL_law 2241 = .ok (.aload_n 0, 1) := by decide +kernel
theorem dL_law_2242 : decode cL_law 2242 = .ok (.iload 4, 2) := by decide +kernel
theorem dL_law_2244 : decode cL_law 2244 = .ok (.iconst 2, 1) := by decide +kernel
theorem dL_law_2245 : decode cL_law 2245 = .ok (.iadd, 1) := by decide +kernel
theorem dL_law_2246 : decode cL_law 2246 = .ok (.iaload, 1) := by decide +kernel
theorem dL_law_2247 : decode cL_law 2247 = .ok (.aload_n 0, 1) := by decide +kernel
theorem dL_law_2248 : decode cL_law 2248 = .ok (.iload 4, 2) := by decide +kernel
theorem dL_law_2250 : decode cL_law 2250 = .ok (.iconst 3, 1) := by decide +kernel
theorem dL_law_2251 : decode cL_law 2251 = .ok (.iadd, 1) := by decide +kernel
theorem dL_law_2252 : decode cL_law 2252 = .ok (.iaload, 1) := by decide +kernel
theorem dL_law_2253 : decode cL_law 2253 = .ok (.invokevirtual 197, 3) := by decide +kernel
theorem dL_law_2256 : decode cL_law 2256 = .ok (.aload_n 2, 1) := by decide +kernel
theorem dL_law_2257 : decode cL_law 2257 = .ok (.aload_n 0, 1) := by decide +kernel
theorem dL_law_2258 : decode cL_law 2258 = .ok (.iload 4, 2) := by decide +kernel
theorem dL_law_2260 : decode cL_law 2260 = .ok (.iconst 1, 1) := by decide +kernel
theorem dL_law_2261 : decode cL_law 2261 = .ok (.iadd, 1) := by decide +kernel
theorem dL_law_2262 : decode cL_law 2262 = .ok (.iaload, 1) := by decide +kernel
theorem dL_law_2263 : decode cL_law 2263 = .ok (.aload_n 0, 1) := by decide +kernel
theorem dL_law_2264 : decode cL_law 2264 = .ok (.iload 4, 2) := by decide +kernel
theorem dL_law_2266 : decode cL_law 2266 = .ok (.iconst 2, 1) := by decide +kernel
theorem dL_law_2267 : decode cL_law 2267 = .ok (.iadd, 1) := by decide +kernel
theorem dL_law_2268 : decode cL_law 2268 = .ok (.iaload, 1) := by decide +kernel
theorem dL_law_2269 : decode cL_law 2269 = .ok (.aload_n 0, 1) := by decide +kernel
theorem dL_law_2270 : decode cL_law 2270 = .ok (.iload 4, 2) := by decide +kernel
theorem dL_law_2272 : decode cL_law 2272 = .ok (.iconst 3, 1) := by decide +kernel
theorem dL_law_2273 : decode cL_law 2273 = .ok (.iadd, 1) := by decide +kernel
theorem dL_law_2274 : decode cL_law 2274 = .ok (.iaload, 1) := by decide +kernel
theorem dL_law_2275 : decode cL_law 2275 = .ok (.invokevirtual 200, 3) := by decide +kernel
theorem dL_law_2278 : decode cL_law 2278 = .ok (.if_icmp .eq 302, 3) := by decide +kernel
theorem dL_law_2281 : decode cL_law 2281 = .ok (.iconst 0, 1) := by decide +kernel
theorem dL_law_2282 : decode cL_law 2282 = .ok (.ireturn, 1) := by decide +kernel
theorem dL_law_2283 : decode cL_law 2283 = .ok (.aload_n 1, 1) := by decide +kernel
theorem dL_law_2284 : decode cL_law 2284 = .ok (.invokevirtual 201, 3) := by decide +kernel
theorem dL_law_2287 : decode cL_law 2287 = .ok (.aload_n 2, 1) := by decide +kernel
theorem dL_law_2288 : decode cL_law 2288 = .ok (.invokevirtual 205, 3) := by decide +kernel
theorem dL_law_2291 : decode cL_law 2291 = .ok (.if_icmp .eq 289, 3) := by decide +kernel
theorem dL_law_2294 : decode cL_law 2294 = .ok (.iconst 0, 1) := by decide +kernel
theorem dL_law_2295 : decode cL_law 2295 = .ok (.ireturn, 1) := by decide +kernel
theorem dL_law_2296 : decode cL_law 2296 = .ok (.aload_n 1, 1) := by decide +kernel
theorem dL_law_2297 : decode cL_law 2297 = .ok (.aload_n 0, 1) := by decide +kernel
theorem dL_law_2298 : decode cL_law 2298 = .ok (.iload 4, 2) := by decide +kernel
theorem dL_law_2300 : decode cL_law 2300 = .ok (.iconst 1, 1) := by decide +kernel
theorem dL_law_2301 : decode cL_law 2301 = .ok (.iadd, 1) := by decide +kernel
theorem dL_law_2302 : decode cL_law 2302 = .ok (.iaload, 1) := by decide +kernel
theorem dL_law_2303 : decode cL_law 2303 = .ok (.aload_n 3, 1) := by decide +kernel
theorem dL_law_2304 : decode cL_law 2304 = .ok (.invokestatic 206, 3) := by decide +kernel
theorem dL_law_2307 : decode cL_law 2307 = .ok (.istore 5, 2) := by decide +kernel
theorem dL_law_2309 : decode cL_law 2309 = .ok (.aload_n 2, 1) := by decide +kernel
theorem dL_law_2310 : decode cL_law 2310 = .ok (.aload_n 0, 1) := by decide +kernel
theorem dL_law_2311 : decode cL_law 2311 = .ok (.iload 4, 2) := by decide +kernel
theorem dL_law_2313 : decode cL_law 2313 = .ok (.iconst 1, 1) := by decide +kernel
theorem dL_law_2314 : decode cL_law 2314 = .ok (.iadd, 1) := by decide +kernel
theorem dL_law_2315 : decode cL_law 2315 = .ok (.iaload, 1) := by decide +kernel
theorem dL_law_2316 : decode cL_law 2316 = .ok (.invokevirtual 209, 3) := by decide +kernel
theorem dL_law_2319 : decode cL_law 2319 = .ok (.lstore 6, 2) := by decide +kernel
theorem dL_law_2321 : decode cL_law 2321 = .ok (.aload_n 2, 1) := by decide +kernel
theorem dL_law_2322 : decode cL_law 2322 = .ok (.invokevirtual 102, 3) := by decide +kernel
theorem dL_law_2325 : decode cL_law 2325 = .ok (.iload 5, 2) := by decide +kernel
theorem dL_law_2327 : decode cL_law 2327 = .ok (.if_icmp .eq 5, 3) := by decide +kernel
theorem dL_law_2330 : decode cL_law 2330 = .ok (.iconst 0, 1) := by decide +kernel
theorem dL_law_2331 : decode cL_law 2331 = .ok (.ireturn, 1) := by decide +kernel
theorem dL_law_2332 : decode cL_law 2332 = .ok (.iload 5, 2) := by decide +kernel
theorem dL_law_2334 : decode cL_law 2334 = .ok (.ifCond .ne 14, 3) := by decide +kernel
theorem dL_law_2337 : decode cL_law 2337 = .ok (.aload_n 3, 1) := by decide +kernel
theorem dL_law_2338 : decode cL_law 2338 = .ok (.iconst 0, 1) := by decide +kernel
theorem dL_law_2339 : decode cL_law 2339 = .ok (.laload, 1) := by decide +kernel
theorem dL_law_2340 : decode cL_law 2340 = .ok (.lload 6, 2) := by decide +kernel
theorem dL_law_2342 : decode cL_law 2342 = .ok (.lcmp, 1) := by decide +kernel
theorem dL_law_2343 : decode cL_law 2343 = .ok (.ifCond .eq 5, 3) := by decide +kernel
theorem dL_law_2346 : decode cL_law 2346 = .ok (.iconst 0, 1) := by decide +kernel
theorem dL_law_2347 : decode cL_law 2347 = .ok (.ireturn, 1) := by decide +kernel
theorem dL_law_2348 : decode cL_law 2348 = .ok (.goto 232, 3) := by decide +kernel
theorem dL_law_2351 : decode cL_law 2351 = .ok (.aload_n 1, 1) := by decide +kernel
theorem dL_law_2352 : decode cL_law 2352 = .ok (.aload_n 0, 1) := by decide +kernel
theorem dL_law_2353 : decode cL_law 2353 = .ok (.iload 4, 2) := by decide +kernel
theorem dL_law_2355 : decode cL_law 2355 = .ok (.iconst 1, 1) := by decide +kernel
theorem dL_law_2356 : decode cL_law 2356 = .ok (.iadd, 1) := by decide +kernel
theorem dL_law_2357 : decode cL_law 2357 = .ok (.iaload, 1) := by decide +kernel
theorem dL_law_2358 : decode cL_law 2358 = .ok (.aload_n 0, 1) := by decide +kernel
theorem dL_law_2359 : decode cL_law 2359 = .ok (.iload 4, 2) := by decide +kernel
theorem dL_law_2361 : decode cL_law 2361 = .ok (.iconst 2, 1) := by decide +kernel
theorem dL_law_2362 : decode cL_law 2362 = .ok (.iadd, 1) := by decide +kernel
theorem dL_law_2363 : decode cL_law 2363 = .ok (.iaload, 1) := by decide +kernel
theorem dL_law_2364 : decode cL_law 2364 = .ok (.ifCond .eq 7, 3) := by decide +kernel
theorem dL_law_2367 : decode cL_law 2367 = .ok (.iconst 1, 1) := by decide +kernel
theorem dL_law_2368 : decode cL_law 2368 = .ok (.goto 4, 3) := by decide +kernel
theorem dL_law_2371 : decode cL_law 2371 = .ok (.iconst 0, 1) := by decide +kernel
theorem dL_law_2372 : decode cL_law 2372 = .ok (.aload_n 3, 1) := by decide +kernel
theorem dL_law_2373 : decode cL_law 2373 = .ok (.invokestatic 210, 3) := by decide +kernel
theorem dL_law_2376 : decode cL_law 2376 = .ok (.istore 5, 2) := by decide +kernel
theorem dL_law_2378 : decode cL_law 2378 = .ok (.aload_n 2, 1) := by decide +kernel
theorem dL_law_2379 : decode cL_law 2379 = .ok (.aload_n 0, 1) := by decide +kernel
theorem dL_law_2380 : decode cL_law 2380 = .ok (.iload 4, 2) := by decide +kernel
theorem dL_law_2382 : decode cL_law 2382 = .ok (.iconst 1, 1) := by decide +kernel
theorem dL_law_2383 : decode cL_law 2383 = .ok (.iadd, 1) := by decide +kernel
theorem dL_law_2384 : decode cL_law 2384 = .ok (.iaload, 1) := by decide +kernel
theorem dL_law_2385 : decode cL_law 2385 = .ok (.aload_n 0, 1) := by decide +kernel
theorem dL_law_2386 : decode cL_law 2386 = .ok (.iload 4, 2) := by decide +kernel
theorem dL_law_2388 : decode cL_law 2388 = .ok (.iconst 2, 1) := by decide +kernel
theorem dL_law_2389 : decode cL_law 2389 = .ok (.iadd, 1) := by decide +kernel
theorem dL_law_2390 : decode cL_law 2390 = .ok (.iaload, 1) := by decide +kernel
theorem dL_law_2391 : decode cL_law 2391 = .ok (.ifCond .eq 7, 3) := by decide +kernel
theorem dL_law_2394 : decode cL_law 2394 = .ok (.iconst 1, 1) := by decide +kernel
theorem dL_law_2395 : decode cL_law 2395 = .ok (.goto 4, 3) := by decide +kernel
theorem dL_law_2398 : decode cL_law 2398 = .ok (.iconst 0, 1) := by decide +kernel
theorem dL_law_2399 : decode cL_law 2399 = .ok (.invokevirtual 213, 3) := by decide +kernel
theorem dL_law_2402 : decode cL_law 2402 = .ok (.istore 6, 2) := by decide +kernel
theorem dL_law_2404 : decode cL_law 2404 = .ok (.aload_n 2, 1) := by decide +kernel
theorem dL_law_2405 : decode cL_law 2405 = .ok (.invokevirtual 102, 3) := by decide +kernel
theorem dL_law_2408 : decode cL_law 2408 = .ok (.iload 5, 2) := by decide +kernel
theorem dL_law_2410 : decode cL_law 2410 = .ok (.if_icmp .eq 5, 3) := by decide +kernel
theorem dL_law_2413 : decode cL_law 2413 = .ok (.iconst 0, 1) := by decide +kernel
theorem dL_law_2414 : decode cL_law 2414 = .ok (.ireturn, 1) := by decide +kernel
theorem dL_law_2415 : decode cL_law 2415 = .ok (.iload 5, 2) := by decide +kernel
theorem dL_law_2417 : decode cL_law 2417 = .ok (.ifCond .ne 15, 3) := by decide +kernel
theorem dL_law_2420 : decode cL_law 2420 = .ok (.aload_n 3, 1) := by decide +kernel
theorem dL_law_2421 : decode cL_law 2421 = .ok (.iconst 0, 1) := by decide +kernel
theorem dL_law_2422 : decode cL_law 2422 = .ok (.laload, 1) := by decide +kernel
theorem dL_law_2423 : decode cL_law 2423 = .ok (.iload 6, 2) := by decide +kernel
theorem dL_law_2425 : decode cL_law 2425 = .ok (.i2l, 1) := by decide +kernel
theorem dL_law_2426 : decode cL_law 2426 = .ok (.lcmp, 1) := by decide +kernel
theorem dL_law_2427 : decode cL_law 2427 = .ok (.ifCond .eq 5, 3) := by decide +kernel
theorem dL_law_2430 : decode cL_law 2430 = .ok (.iconst 0, 1) := by decide +kernel
theorem dL_law_2431 : decode cL_law 2431 = .ok (.ireturn, 1) := by decide +kernel
theorem dL_law_2432 : decode cL_law 2432 = .ok (.goto 148, 3) := by decide +kernel
theorem dL_law_2435 : decode cL_law 2435 = .ok (.aload_n 1, 1) := by decide +kernel
theorem dL_law_2436 : decode cL_law 2436 = .ok (.aload_n 0, 1) := by decide +kernel
theorem dL_law_2437 : decode cL_law 2437 = .ok (.iload 4, 2) := by decide +kernel
theorem dL_law_2439 : decode cL_law 2439 = .ok (.iconst 1, 1) := by decide +kernel
theorem dL_law_2440 : decode cL_law 2440 = .ok (.iadd, 1) := by decide +kernel
theorem dL_law_2441 : decode cL_law 2441 = .ok (.iaload, 1) := by decide +kernel
theorem dL_law_2442 : decode cL_law 2442 = .ok (.aload_n 0, 1) := by decide +kernel
theorem dL_law_2443 : decode cL_law 2443 = .ok (.iload 4, 2) := by decide +kernel
theorem dL_law_2445 : decode cL_law 2445 = .ok (.iconst 2, 1) := by decide +kernel
theorem dL_law_2446 : decode cL_law 2446 = .ok (.iadd, 1) := by decide +kernel
theorem dL_law_2447 : decode cL_law 2447 = .ok (.iaload, 1) := by decide +kernel
theorem dL_law_2448 : decode cL_law 2448 = .ok (.aload_n 3, 1) := by decide +kernel
theorem dL_law_2449 : decode cL_law 2449 = .ok (.invokestatic 214, 3) := by decide +kernel
theorem dL_law_2452 : decode cL_law 2452 = .ok (.istore 5, 2) := by decide +kernel
theorem dL_law_2454 : decode cL_law 2454 = .ok (.aload_n 2, 1) := by decide +kernel
theorem dL_law_2455 : decode cL_law 2455 = .ok (.aload_n 0, 1) := by decide +kernel
theorem dL_law_2456 : decode cL_law 2456 = .ok (.iload 4, 2) := by decide +kernel
theorem dL_law_2458 : decode cL_law 2458 = .ok (.iconst 1, 1) := by decide +kernel
theorem dL_law_2459 : decode cL_law 2459 = .ok (.iadd, 1) := by decide +kernel
theorem dL_law_2460 : decode cL_law 2460 = .ok (.iaload, 1) := by decide +kernel
theorem dL_law_2461 : decode cL_law 2461 = .ok (.aload_n 0, 1) := by decide +kernel
theorem dL_law_2462 : decode cL_law 2462 = .ok (.iload 4, 2) := by decide +kernel
theorem dL_law_2464 : decode cL_law 2464 = .ok (.iconst 2, 1) := by decide +kernel
theorem dL_law_2465 : decode cL_law 2465 = .ok (.iadd, 1) := by decide +kernel
theorem dL_law_2466 : decode cL_law 2466 = .ok (.iaload, 1) := by decide +kernel
theorem dL_law_2467 : decode cL_law 2467 = .ok (.invokevirtual 216, 3) := by decide +kernel
theorem dL_law_2470 : decode cL_law 2470 = .ok (.lstore 6, 2) := by decide +kernel
theorem dL_law_2472 : decode cL_law 2472 = .ok (.aload_n 2, 1) := by decide +kernel
theorem dL_law_2473 : decode cL_law 2473 = .ok (.invokevirtual 102, 3) := by decide +kernel
theorem dL_law_2476 : decode cL_law 2476 = .ok (.iload 5, 2) := by decide +kernel
theorem dL_law_2478 : decode cL_law 2478 = .ok (.if_icmp .eq 5, 3) := by decide +kernel
theorem dL_law_2481 : decode cL_law 2481 = .ok (.iconst 0, 1) := by decide +kernel
theorem dL_law_2482 : decode cL_law 2482 = .ok (.ireturn, 1) := by decide +kernel
theorem dL_law_2483 : decode cL_law 2483 = .ok (.iload 5, 2) := by decide +kernel
theorem dL_law_2485 : decode cL_law 2485 = .ok (.ifCond .ne 14, 3) := by decide +kernel
theorem dL_law_2488 : decode cL_law 2488 = .ok (.aload_n 3, 1) := by decide +kernel
theorem dL_law_2489 : decode cL_law 2489 = .ok (.iconst 0, 1) := by decide +kernel
theorem dL_law_2490 : decode cL_law 2490 = .ok (.laload, 1) := by decide +kernel
theorem dL_law_2491 : decode cL_law 2491 = .ok (.lload 6, 2) := by decide +kernel
theorem dL_law_2493 : decode cL_law 2493 = .ok (.lcmp, 1) := by decide +kernel
theorem dL_law_2494 : decode cL_law 2494 = .ok (.ifCond .eq 5, 3) := by decide +kernel
theorem dL_law_2497 : decode cL_law 2497 = .ok (.iconst 0, 1) := by decide +kernel
theorem dL_law_2498 : decode cL_law 2498 = .ok (.ireturn, 1) := by decide +kernel
theorem dL_law_2499 : decode cL_law 2499 = .ok (.goto 81, 3) := by decide +kernel
theorem dL_law_2502 : decode cL_law 2502 = .ok (.aload_n 1, 1) := by decide +kernel
theorem dL_law_2503 : decode cL_law 2503 = .ok (.aload_n 0, 1) := by decide +kernel
theorem dL_law_2504 : decode cL_law 2504 = .ok (.iload 4, 2) := by decide +kernel
theorem dL_law_2506 : decode cL_law 2506 = .ok (.iconst 1, 1) := by decide +kernel
theorem dL_law_2507 : decode cL_law 2507 = .ok (.iadd, 1) := by decide +kernel
theorem dL_law_2508 : decode cL_law 2508 = .ok (.iaload, 1) := by decide +kernel
theorem dL_law_2509 : decode cL_law 2509 = .ok (.aload_n 0, 1) := by decide +kernel
theorem dL_law_2510 : decode cL_law 2510 = .ok (.iload 4, 2) := by decide +kernel
theorem dL_law_2512 : decode cL_law 2512 = .ok (.iconst 2, 1) := by decide +kernel
theorem dL_law_2513 : decode cL_law 2513 = .ok (.iadd, 1) := by decide +kernel
theorem dL_law_2514 : decode cL_law 2514 = .ok (.iaload, 1) := by decide +kernel
theorem dL_law_2515 : decode cL_law 2515 = .ok (.ifCond .eq 7, 3) := by decide +kernel
theorem dL_law_2518 : decode cL_law 2518 = .ok (.iconst 1, 1) := by decide +kernel
theorem dL_law_2519 : decode cL_law 2519 = .ok (.goto 4, 3) := by decide +kernel
theorem dL_law_2522 : decode cL_law 2522 = .ok (.iconst 0, 1) := by decide +kernel
theorem dL_law_2523 : decode cL_law 2523 = .ok (.invokevirtual 217, 3) := by decide +kernel
theorem dL_law_2526 : decode cL_law 2526 = .ok (.aload_n 2, 1) := by decide +kernel
theorem dL_law_2527 : decode cL_law 2527 = .ok (.aload_n 0, 1) := by decide +kernel
theorem dL_law_2528 : decode cL_law 2528 = .ok (.iload 4, 2) := by decide +kernel
theorem dL_law_2530 : decode cL_law 2530 = .ok (.iconst 1, 1) := by decide +kernel
theorem dL_law_2531 : decode cL_law 2531 = .ok (.iadd, 1) := by decide +kernel
theorem dL_law_2532 : decode cL_law 2532 = .ok (.iaload, 1) := by decide +kernel
theorem dL_law_2533 : decode cL_law 2533 = .ok (.aload_n 0, 1) := by decide +kernel
theorem dL_law_2534 : decode cL_law 2534 = .ok (.iload 4, 2) := by decide +kernel
theorem dL_law_2536 : decode cL_law 2536 = .ok (.iconst 2, 1) := by decide +kernel
theorem dL_law_2537 : decode cL_law 2537 = .ok (.iadd, 1) := by decide +kernel
theorem dL_law_2538 : decode cL_law 2538 = .ok (.iaload, 1) := by decide +kernel
theorem dL_law_2539 : decode cL_law 2539 = .ok (.ifCond .eq 7, 3) := by decide +kernel
theorem dL_law_2542 : decode cL_law 2542 = .ok (.iconst 1, 1) := by decide +kernel
theorem dL_law_2543 : decode cL_law 2543 = .ok (.goto 4, 3) := by decide +kernel
theorem dL_law_2546 : decode cL_law 2546 = .ok (.iconst 0, 1) := by decide +kernel
theorem dL_law_2547 : decode cL_law 2547 = .ok (.invokevirtual 220, 3) := by decide +kernel
theorem dL_law_2550 : decode cL_law 2550 = .ok (.if_icmp .eq 30, 3) := by decide +kernel
theorem dL_law_2553 : decode cL_law 2553 = .ok (.iconst 0, 1) := by decide +kernel
theorem dL_law_2554 : decode cL_law 2554 = .ok (.ireturn, 1) := by decide +kernel
theorem dL_law_2555 : decode cL_law 2555 = .ok (.aload_n 1, 1) := by decide +kernel
theorem dL_law_2556 : decode cL_law 2556 = .ok (.aload_n 0, 1) := by decide +kernel
theorem dL_law_2557 : decode cL_law 2557 = .ok (.iload 4, 2) := by decide +kernel
theorem dL_law_2559 : decode cL_law 2559 = .ok (.iconst 1, 1) := by decide +kernel
theorem dL_law_2560 : decode cL_law 2560 = .ok (.iadd, 1) := by decide +kernel
theorem dL_law_2561 : decode cL_law 2561 = .ok (.iaload, 1) := by decide +kernel
theorem dL_law_2562 : decode cL_law 2562 = .ok (.invokevirtual 221, 3) := by decide +kernel
theorem dL_law_2565 : decode cL_law 2565 = .ok (.aload_n 2, 1) := by decide +kernel
theorem dL_law_2566 : decode cL_law 2566 = .ok (.aload_n 0, 1) := by decide +kernel
theorem dL_law_2567 : decode cL_law 2567 = .ok (.iload 4, 2) := by decide +kernel
theorem dL_law_2569 : decode cL_law 2569 = .ok (.iconst 1, 1) := by decide +kernel
theorem dL_law_2570 : decode cL_law 2570 = .ok (.iadd, 1) := by decide +kernel
theorem dL_law_2571 : decode cL_law 2571 = .ok (.iaload, 1) := by decide +kernel
theorem dL_law_2572 : decode cL_law 2572 = .ok (.invokevirtual 224, 3) := by decide +kernel
theorem dL_law_2575 : decode cL_law 2575 = .ok (.if_icmp .eq 5, 3) := by decide +kernel
theorem dL_law_2578 : decode cL_law 2578 = .ok (.iconst 0, 1) := by decide +kernel
theorem dL_law_2579 : decode cL_law 2579 = .ok (.ireturn, 1) := by decide +kernel
