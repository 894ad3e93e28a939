theorem dL_law_2109 : decode code 2109 = .ok (.aload_n 3, 1) := by decide +kernel
theorem dL_law_2110 : decode code 2110 = .ok (.iconst 0, 1) := by decide +kernel
theorem dL_law_2111 : decode code 2111 = .ok (.laload, 1) := by decide +kernel
theorem dL_law_2112 : decode code 2112 = .ok (.iload 7, 2) := by decide +kernel
theorem dL_law_2114 : decode code 2114 = .ok (.i2l, 1) := by decide +kernel
theorem dL_law_2115 : decode code 2115 = .ok (.lcmp, 1) := by decide +kernel
theorem dL_law_2116 : decode code 2116 = .ok (.ifCond .eq 5, 3) := by decide +kernel
theorem dL_law_2119 : decode code 2119 = .ok (.iconst 0, 1) := by decide +kernel
theorem dL_law_2121 : decode code 2121 = .ok (.goto 398, 3) := by decide +kernel
theorem dL_law_2124 : decode code 2124 = .ok (.aload_n 1, 1) := by decide +kernel
theorem dL_law_2125 : decode code 2125 = .ok (.aload_n 0, 1) := by decide +kernel
theorem dL_law_2126 : decode code 2126 = .ok (.iload 5, 2) := by decide +kernel
theorem dL_law_2128 : decode code 2128 = .ok (.iconst 1, 1) := by decide +kernel
theorem dL_law_2129 : decode code 2129 = .ok (.iadd, 1) := by decide +kernel
theorem dL_law_2130 : decode code 2130 = .ok (.iaload, 1) := by decide +kernel
theorem dL_law_2131 : decode code 2131 = .ok (.aload_n 3, 1) := by decide +kernel
theorem dL_law_2132 : decode code 2132 = .ok (.invokestatic 238, 3) := by decide +kernel
theorem dL_law_2135 : decode code 2135 = .ok (.istore 6, 2) := by decide +kernel
theorem dL_law_2137 : decode code 2137 = .ok (.aload_n 2, 1) := by decide +kernel
theorem dL_law_2138 : decode code 2138 = .ok (.aload_n 0, 1) := by decide +kernel
theorem dL_law_2139 : decode code 2139 = .ok (.iload 5, 2) := by decide +kernel
theorem dL_law_2141 : decode code 2141 = .ok (.iconst 1, 1) := by decide +kernel
theorem dL_law_2142 : decode code 2142 = .ok (.iadd, 1) := by decide +kernel
theorem dL_law_2143 : decode code 2143 = .ok (.iaload, 1) := by decide +kernel
theorem dL_law_2144 : decode code 2144 = .ok (.invokevirtual 240, 3) := by decide +kernel
theorem dL_law_2147 : decode code 2147 = .ok (.istore 7, 2) := by decide +kernel
theorem dL_law_2149 : decode code 2149 = .ok (.aload_n 2, 1) := by decide +kernel
theorem dL_law_2150 : decode code 2150 = .ok (.invokevirtual 149, 3) := by decide +kernel
theorem dL_law_2153 : decode code 2153 = .ok (.iload 6, 2) := by decide +kernel
theorem dL_law_2155 : decode code 2155 = .ok (.if_icmp .eq 5, 3) := by decide +kernel
theorem dL_law_2158 : decode code 2158 = .ok (.iconst 0, 1) := by decide +kernel
theorem dL_law_2160 : decode code 2160 = .ok (.iload 6, 2) := by decide +kernel
theorem dL_law_2162 : decode code 2162 = .ok (.ifCond .ne 15, 3) := by decide +kernel
theorem dL_law_2165 : decode code 2165 = .ok (.aload_n 3, 1) := by decide +kernel
theorem dL_law_2166 : decode code 2166 = .ok (.iconst 0, 1) := by decide +kernel
theorem dL_law_2167 : decode code 2167 = .ok (.laload, 1) := by decide +kernel
theorem dL_law_2168 : decode code 2168 = .ok (.iload 7, 2) := by decide +kernel
theorem dL_law_2170 : decode code 2170 = .ok (.i2l, 1) := by decide +kernel
theorem dL_law_2171 : decode code 2171 = .ok (.lcmp, 1) := by decide +kernel
theorem dL_law_2172 : decode code 2172 = .ok (.ifCond .eq 5, 3) := by decide +kernel
theorem dL_law_2175 : decode code 2175 = .ok (.iconst 0, 1) := by decide +kernel
theorem dL_law_2177 : decode code 2177 = .ok (.goto 342, 3) := by decide +kernel
theorem dL_law_2180 : decode code 2180 = .ok (.aload_n 1, 1) := by decide +kernel
theorem dL_law_2181 : decode code 2181 = .ok (.aload_n 0, 1) := by decide +kernel
theorem dL_law_2182 : decode code 2182 = .ok (.iload 5, 2) := by decide +kernel
theorem dL_law_2184 : decode code 2184 = .ok (.iconst 1, 1) := by decide +kernel
theorem dL_law_2185 : decode code 2185 = .ok (.iadd, 1) := by decide +kernel
theorem dL_law_2186 : decode code 2186 = .ok (.iaload, 1) := by decide +kernel
theorem dL_law_2187 : decode code 2187 = .ok (.aload_n 0, 1) := by decide +kernel
theorem dL_law_2188 : decode code 2188 = .ok (.iload 5, 2) := by decide +kernel
theorem dL_law_2190 : decode code 2190 = .ok (.iconst 2, 1) := by decide +kernel
theorem dL_law_2191 : decode code 2191 = .ok (.iadd, 1) := by decide +kernel
theorem dL_law_2192 : decode code 2192 = .ok (.iaload, 1) := by decide +kernel
theorem dL_law_2193 : decode code 2193 = .ok (.aload_n 3, 1) := by decide +kernel
theorem dL_law_2194 : decode code 2194 = .ok (.invokestatic 241, 3) := by decide +kernel
theorem dL_law_2197 : decode code 2197 = .ok (.istore 6, 2) := by decide +kernel
theorem dL_law_2199 : decode code 2199 = .ok (.aload_n 2, 1) := by decide +kernel
theorem dL_law_2200 : decode code 2200 = .ok (.aload_n 0, 1) := by decide +kernel
theorem dL_law_2201 : decode code 2201 = .ok (.iload 5, 2) := by decide +kernel
theorem dL_law_2203 : decode code 2203 = .ok (.iconst 1, 1) := by decide +kernel
theorem dL_law_2204 : decode code 2204 = .ok (.iadd, 1) := by decide +kernel
theorem dL_law_2205 : decode code 2205 = .ok (.iaload, 1) := by decide +kernel
theorem dL_law_2206 : decode code 2206 = .ok (.aload_n 0, 1) := by decide +kernel
theorem dL_law_2207 : decode code 2207 = .ok (.iload 5, 2) := by decide +kernel
theorem dL_law_2209 : decode code 2209 = .ok (.iconst 2, 1) := by decide +kernel
theorem dL_law_2210 : decode code 2210 = .ok (.iadd, 1) := by decide +kernel
theorem dL_law_2211 : decode code 2211 = .ok (.iaload, 1) := by decide +kernel
theorem dL_law_2212 : decode code 2212 = .ok (.invokevirtual 243, 3) := by decide +kernel
theorem dL_law_2215 : decode code 2215 = .ok (.istore 7, 2) := by decide +kernel
theorem dL_law_2217 : decode code 2217 = .ok (.aload_n 2, 1) := by decide +kernel
theorem dL_law_2218 : decode code 2218 = .ok (.invokevirtual 149, 3) := by decide +kernel
theorem dL_law_2221 : decode code 2221 = .ok (.iload 6, 2) := by decide +kernel
theorem dL_law_2223 : decode code 2223 = .ok (.if_icmp .eq 5, 3) := by decide +kernel
theorem dL_law_2226 : decode code 2226 = .ok (.iconst 0, 1) := by decide +kernel
theorem dL_law_2228 : decode code 2228 = .ok (.iload 6, 2) := by decide +kernel
theorem dL_law_2230 : decode code 2230 = .ok (.ifCond .ne 22, 3) := by decide +kernel
theorem dL_law_2233 : decode code 2233 = .ok (.aload_n 3, 1) := by decide +kernel
theorem dL_law_2234 : decode code 2234 = .ok (.iconst 0, 1) := by decide +kernel
theorem dL_law_2235 : decode code 2235 = .ok (.laload, 1) := by decide +kernel
theorem dL_law_2236 : decode code 2236 = .ok (.iload 7, 2) := by decide +kernel
theorem dL_law_2238 : decode code 2238 = .ok (.ifCond .eq 7, 3) := by decide +kernel
theorem dL_law_2241 : decode code 2241 = .ok (.lconst 1, 1) := by decide +kernel
theorem dL_law_2242 : decode code 2242 = .ok (.goto 4, 3) := by decide +kernel
theorem dL_law_2245 : decode code 2245 = .ok (.lconst 0, 1) := by decide +kernel
theorem dL_law_2246 : decode code 2246 = .ok (.lcmp, 1) := by decide +kernel
theorem dL_law_2247 : decode code 2247 = .ok (.ifCond .eq 5, 3) := by decide +kernel
theorem dL_law_2250 : decode code 2250 = .ok (.iconst 0, 1) := by decide +kernel
theorem dL_law_2252 : decode code 2252 = .ok (.goto 267, 3) := by decide +kernel
theorem dL_law_2255 : decode code 2255 = .ok (.aload_n 1, 1) := by decide +kernel
theorem dL_law_2256 : decode code 2256 = .ok (.aload_n 3, 1) := by decide +kernel
theorem dL_law_2257 : decode code 2257 = .ok (.invokestatic 244, 3) := by decide +kernel
theorem dL_law_2260 : decode code 2260 = .ok (.istore 6, 2) := by decide +kernel
theorem dL_law_2262 : decode code 2262 = .ok (.aload_n 2, 1) := by decide +kernel
theorem dL_law_2263 : decode code 2263 = .ok (.invokevirtual 247, 3) := by decide +kernel
theorem dL_law_2266 : decode code 2266 = .ok (.istore 7, 2) := by decide +kernel
theorem dL_law_2268 : decode code 2268 = .ok (.aload_n 2, 1) := by decide +kernel
theorem dL_law_2269 : decode code 2269 = .ok (.invokevirtual 149, 3) := by decide +kernel
theorem dL_law_2272 : decode code 2272 = .ok (.iload 6, 2) := by decide +kernel
theorem dL_law_2274 : decode code 2274 = .ok (.if_icmp .eq 5, 3) := by decide +kernel
theorem dL_law_2277 : decode code 2277 = .ok (.iconst 0, 1) := by decide +kernel
theorem dL_law_2279 : decode code 2279 = .ok (.iload 6, 2) := by decide +kernel
theorem dL_law_2281 : decode code 2281 = .ok (.ifCond .ne 15, 3) := by decide +kernel
theorem dL_law_2284 : decode code 2284 = .ok (.aload_n 3, 1) := by decide +kernel
theorem dL_law_2285 : decode code 2285 = .ok (.iconst 0, 1) := by decide +kernel
theorem dL_law_2286 : decode code 2286 = .ok (.laload, 1) := by decide +kernel
theorem dL_law_2287 : decode code 2287 = .ok (.iload 7, 2) := by decide +kernel
theorem dL_law_2289 : decode code 2289 = .ok (.i2l, 1) := by decide +kernel
theorem dL_law_2290 : decode code 2290 = .ok (.lcmp, 1) := by decide +kernel
theorem dL_law_2291 : decode code 2291 = .ok (.ifCond .eq 5, 3) := by decide +kernel
theorem dL_law_2294 : decode code 2294 = .ok (.iconst 0, 1) := by decide +kernel
theorem dL_law_2296 : decode code 2296 = .ok (.goto 223, 3) := by decide +kernel
theorem dL_law_2299 : decode code 2299 = .ok (.aload_n 1, 1) := by decide +kernel
theorem dL_law_2300 : decode code 2300 = .ok (.aload_n 0, 1) := by decide +kernel
theorem dL_law_2301 : decode code 2301 = .ok (.iload 5, 2) := by decide +kernel
theorem dL_law_2303 : decode code 2303 = .ok (.iconst 1, 1) := by decide +kernel
theorem dL_law_2304 : decode code 2304 = .ok (.iadd, 1) := by decide +kernel
theorem dL_law_2305 : decode code 2305 = .ok (.iaload, 1) := by decide +kernel
theorem dL_law_2306 : decode code 2306 = .ok (.aload_n 3, 1) := by decide +kernel
theorem dL_law_2307 : decode code 2307 = .ok (.invokestatic 248, 3) := by decide +kernel
theorem dL_law_2310 : decode code 2310 = .ok (.istore 6, 2) := by decide +kernel
theorem dL_law_2312 : decode code 2312 = .ok (.aload_n 2, 1) := by decide +kernel
theorem dL_law_2313 : decode code 2313 = .ok (.aload_n 0, 1) := by decide +kernel
theorem dL_law_2314 : decode code 2314 = .ok (.iload 5, 2) := by decide +kernel
theorem dL_law_2316 : decode code 2316 = .ok (.iconst 1, 1) := by decide +kernel
theorem dL_law_2317 : decode code 2317 = .ok (.iadd, 1) := by decide +kernel
theorem dL_law_2318 : decode code 2318 = .ok (.iaload, 1) := by decide +kernel
theorem dL_law_2319 : decode code 2319 = .ok (.invokevirtual 250, 3) := by decide +kernel
theorem dL_law_2322 : decode code 2322 = .ok (.istore 7, 2) := by decide +kernel
theorem dL_law_2324 : decode code 2324 = .ok (.aload_n 2, 1) := by decide +kernel
theorem dL_law_2325 : decode code 2325 = .ok (.invokevirtual 149, 3) := by decide +kernel
theorem dL_law_2328 : decode code 2328 = .ok (.iload 6, 2) := by decide +kernel
theorem dL_law_2330 : decode code 2330 = .ok (.if_icmp .eq 5, 3) := by decide +kernel
theorem dL_law_2333 : decode code 2333 = .ok (.iconst 0, 1) := by decide +kernel
theorem dL_law_2335 : decode code 2335 = .ok (.iload 6, 2) := by decide +kernel
theorem dL_law_2337 : decode code 2337 = .ok (.ifCond .ne 15, 3) := by decide +kernel
theorem dL_law_2340 : decode code 2340 = .ok (.aload_n 3, 1) := by decide +kernel
theorem dL_law_2341 : decode code 2341 = .ok (.iconst 0, 1) := by decide +kernel
theorem dL_law_2342 : decode code 2342 = .ok (.laload, 1) := by decide +kernel
theorem dL_law_2343 : decode code 2343 = .ok (.iload 7, 2) := by decide +kernel
theorem dL_law_2345 : decode code 2345 = .ok (.i2l, 1) := by decide +kernel
theorem dL_law_2346 : decode code 2346 = .ok (.lcmp, 1) := by decide +kernel
theorem dL_law_2347 : decode code 2347 = .ok (.ifCond .eq 5, 3) := by decide +kernel
theorem dL_law_2350 : decode code 2350 = .ok (.iconst 0, 1) := by decide +kernel
theorem dL_law_2352 : decode code 2352 = .ok (.goto 167, 3) := by decide +kernel
theorem dL_law_2355 : decode code 2355 = .ok (.aload_n 1, 1) := by decide +kernel
theorem dL_law_2356 : decode code 2356 = .ok (.invokevirtual 251, 3) := by decide +kernel
theorem dL_law_2359 : decode code 2359 = .ok (.aload_n 2, 1) := by decide +kernel
theorem dL_law_2360 : decode code 2360 = .ok (.invokevirtual 254, 3) := by decide +kernel
theorem dL_law_2363 : decode code 2363 = .ok (.if_icmp .eq 156, 3) := by decide +kernel
theorem dL_law_2366 : decode code 2366 = .ok (.iconst 0, 1) := by decide +kernel
theorem dL_law_2368 : decode code 2368 = .ok (.aload_n 1, 1) := by decide +kernel
theorem dL_law_2369 : decode code 2369 = .ok (.invokevirtual 255, 3) := by decide +kernel
theorem dL_law_2372 : decode code 2372 = .ok (.aload_n 2, 1) := by decide +kernel
theorem dL_law_2373 : decode code 2373 = .ok (.invokevirtual 258, 3) := by decide +kernel
theorem dL_law_2376 : decode code 2376 = .ok (.if_icmp .eq 143, 3) := by decide +kernel
theorem dL_law_2379 : decode code 2379 = .ok (.iconst 0, 1) := by decide +kernel
theorem dL_law_2381 : decode code 2381 = .ok (.aload_n 1, 1) := by decide +kernel
theorem dL_law_2382 : decode code 2382 = .ok (.aload_n 0, 1) := by decide +kernel
theorem dL_law_2383 : decode code 2383 = .ok (.iload 5, 2) := by decide +kernel
theorem dL_law_2385 : decode code 2385 = .ok (.iconst 1, 1) := by decide +kernel
theorem dL_law_2386 : decode code 2386 = .ok (.iadd, 1) := by decide +kernel
theorem dL_law_2387 : decode code 2387 = .ok (.iaload, 1) := by decide +kernel
theorem dL_law_2388 : decode code 2388 = .ok (.aload_n 3, 1) := by decide +kernel
theorem dL_law_2389 : decode code 2389 = .ok (.invokestatic 259, 3) := by decide +kernel
theorem dL_law_2392 : decode code 2392 = .ok (.istore 6, 2) := by decide +kernel
theorem dL_law_2394 : decode code 2394 = .ok (.aload_n 2, 1) := by decide +kernel
theorem dL_law_2395 : decode code 2395 = .ok (.aload_n 0, 1) := by decide +kernel
theorem dL_law_2396 : decode code 2396 = .ok (.iload 5, 2) := by decide +kernel
theorem dL_law_2398 : decode code 2398 = .ok (.iconst 1, 1) := by decide +kernel
theorem dL_law_2399 : decode code 2399 = .ok (.iadd, 1) := by decide +kernel
theorem dL_law_2400 : decode code 2400 = .ok (.iaload, 1) := by decide +kernel
theorem dL_law_2401 : decode code 2401 = .ok (.invokevirtual 261, 3) := by decide +kernel
theorem dL_law_2404 : decode code 2404 = .ok (.istore 7, 2) := by decide +kernel
theorem dL_law_2406 : decode code 2406 = .ok (.aload_n 2, 1) := by decide +kernel
theorem dL_law_2407 : decode code 2407 = .ok (.invokevirtual 149, 3) := by decide +kernel
theorem dL_law_2410 : decode code 2410 = .ok (.iload 6, 2) := by decide +kernel
theorem dL_law_2412 : decode code 2412 = .ok (.if_icmp .eq 5, 3) := by decide +kernel
theorem dL_law_2415 : decode code 2415 = .ok (.iconst 0, 1) := by decide +kernel
theorem dL_law_2417 : decode code 2417 = .ok (.iload 6, 2) := by decide +kernel
theorem dL_law_2419 : decode code 2419 = .ok (.ifCond .ne 15, 3) := by decide +kernel
theorem dL_law_2422 : decode code 2422 = .ok (.aload_n 3, 1) := by decide +kernel
theorem dL_law_2423 : decode code 2423 = .ok (.iconst 0, 1) := by decide +kernel
theorem dL_law_2424 : decode code 2424 = .ok (.laload, 1) := by decide +kernel
theorem dL_law_2425 : decode code 2425 = .ok (.iload 7, 2) := by decide +kernel
theorem dL_law_2427 : decode code 2427 = .ok (.i2l, 1) := by decide +kernel
theorem dL_law_2428 : decode code 2428 = .ok (.lcmp, 1) := by decide +kernel
theorem dL_law_2429 : decode code 2429 = .ok (.ifCond .eq 5, 3) := by decide +kernel
theorem dL_law_2432 : decode code 2432 = .ok (.iconst 0, 1) := by decide +kernel
theorem dL_law_2434 : decode code 2434 = .ok (.goto 85, 3) := by decide +kernel
theorem dL_law_2437 : decode code 2437 = .ok (.aload_n 1, 1) := by decide +kernel
theorem dL_law_2438 : decode code 2438 = .ok (.aload_n 0, 1) := by decide +kernel
theorem dL_law_2439 : decode code 2439 = .ok (.iload 5, 2) := by decide +kernel
theorem dL_law_2441 : decode code 2441 = .ok (.iconst 1, 1) := by decide +kernel
theorem dL_law_2442 : decode code 2442 = .ok (.iadd, 1) := by decide +kernel
theorem dL_law_2443 : decode code 2443 = .ok (.iaload, 1) := by decide +kernel
theorem dL_law_2444 : decode code 2444 = .ok (.invokevirtual 262, 3) := by decide +kernel
theorem dL_law_2447 : decode code 2447 = .ok (.aload_n 2, 1) := by decide +kernel
theorem dL_law_2448 : decode code 2448 = .ok (.aload_n 0, 1) := by decide +kernel
theorem dL_law_2449 : decode code 2449 = .ok (.iload 5, 2) := by decide +kernel
theorem dL_law_2451 : decode code 2451 = .ok (.iconst 1, 1) := by decide +kernel
theorem dL_law_2452 : decode code 2452 = .ok (.iadd, 1) := by decide +kernel
theorem dL_law_2453 : decode code 2453 = .ok (.iaload, 1) := by decide +kernel
theorem dL_law_2454 : decode code 2454 = .ok (.invokevirtual 265, 3) := by decide +kernel
theorem dL_law_2457 : decode code 2457 = .ok (.if_icmp .eq 62, 3) := by decide +kernel
theorem dL_law_2460 : decode code 2460 = .ok (.iconst 0, 1) := by decide +kernel
theorem dL_law_2462 : decode code 2462 = .ok (.aload_n 1, 1) := by decide +kernel
theorem dL_law_2463 : decode code 2463 = .ok (.invokevirtual 266, 3) := by decide +kernel
theorem dL_law_2466 : decode code 2466 = .ok (.aload_n 2, 1) := by decide +kernel
theorem dL_law_2467 : decode code 2467 = .ok (.invokevirtual 269, 3) := by decide +kernel
theorem dL_law_2470 : decode code 2470 = .ok (.if_icmp .eq 49, 3) := by decide +kernel
theorem dL_law_2473 : decode code 2473 = .ok (.iconst 0, 1) := by decide +kernel
theorem dL_law_2475 : decode code 2475 = .ok (.aload_n 1, 1) := by decide +kernel
theorem dL_law_2476 : decode code 2476 = .ok (.aload_n 3, 1) := by decide +kernel
theorem dL_law_2477 : decode code 2477 = .ok (.invokestatic 270, 3) := by decide +kernel
theorem dL_law_2480 : decode code 2480 = .ok (.istore 6, 2) := by decide +kernel
theorem dL_law_2482 : decode code 2482 = .ok (.aload_n 2, 1) := by decide +kernel
theorem dL_law_2483 : decode code 2483 = .ok (.invokevirtual 272, 3) := by decide +kernel
theorem dL_law_2486 : decode code 2486 = .ok (.istore 7, 2) := by decide +kernel
theorem dL_law_2488 : decode code 2488 = .ok (.aload_n 2, 1) := by decide +kernel
theorem dL_law_2489 : decode code 2489 = .ok (.invokevirtual 149, 3) := by decide +kernel
theorem dL_law_2492 : decode code 2492 = .ok (.iload 6, 2) := by decide +kernel
theorem dL_law_2494 : decode code 2494 = .ok (.if_icmp .eq 5, 3) := by decide +kernel
theorem dL_law_2497 : decode code 2497 = .ok (.iconst 0, 1) := by decide +kernel
theorem dL_law_2499 : decode code 2499 = .ok (.iload 6, 2) := by decide +kernel
theorem dL_law_2501 : decode code 2501 = .ok (.ifCond .ne 15, 3) := by decide +kernel
theorem dL_law_2504 : decode code 2504 = .ok (.aload_n 3, 1) := by decide +kernel
theorem dL_law_2505 : decode code 2505 = .ok (.iconst 0, 1) := by decide +kernel
theorem dL_law_2506 : decode code 2506 = .ok (.laload, 1) := by decide +kernel
theorem dL_law_2507 : decode code 2507 = .ok (.iload 7, 2) := by decide +kernel
theorem dL_law_2509 : decode code 2509 = .ok (.i2l, 1) := by decide +kernel
theorem dL_law_2510 : decode code 2510 = .ok (.lcmp, 1) := by decide +kernel
theorem dL_law_2511 : decode code 2511 = .ok (.ifCond .eq 5, 3) := by decide +kernel
theorem dL_law_2514 : decode code 2514 = .ok (.iconst 0, 1) := by decide +kernel
theorem dL_law_2516 : decode code 2516 = .ok (.goto 3, 3) := by decide +kernel
theorem dL_law_2519 : decode code 2519 = .ok (.iinc 5 6, 3) := by decide +kernel
theorem dL_law_2522 : decode code 2522 = .ok (.goto (-2494), 3) := by decide +kernel
theorem dL_law_2525 : decode code 2525 = .ok (.iconst 1, 1) := by decide +kernel
theorem dL_law_2526 : decode code 2526 = .ok (.ireturn, 1) := by decide +kernel
