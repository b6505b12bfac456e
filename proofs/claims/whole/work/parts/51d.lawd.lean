/-! THE LAW'S WALK, 2.5: the law's instructions -/
theorem dL_law_2223 : decode cL_law 2223 = .ok (.iconst 1, 1) := by decide +kernel
theorem dL_law_2224 : decode cL_law 2224 = .ok (.iadd, 1) := by decide +kernel
theorem dL_law_2225 : decode cL_law 2225 = .ok (.iaload, 1) := by decide +kernel
theorem dL_law_2226 : decode cL_law 2226 = .ok (.invokevirtual 240, 3) := by decide +kernel
theorem dL_law_2229 : decode cL_law 2229 = .ok (.istore 6, 2) := by decide +kernel
theorem dL_law_2231 : decode cL_law 2231 = .ok (.aload_n 2, 1) := by decide +kernel
theorem dL_law_2232 : decode cL_law 2232 = .ok (.invokevirtual 140, 3) := by decide +kernel
theorem dL_law_2235 : decode cL_law 2235 = .ok (.iload 5, 2) := by decide +kernel
theorem dL_law_2237 : decode cL_law 2237 = .ok (.if_icmp .eq 5, 3) := by decide +kernel
theorem dL_law_2240 : decode cL_law 2240 = .ok (.iconst 0, 1) := by decide +kernel
theorem dL_law_2241 : decode cL_law 2241 = .ok (.ireturn, 1) := by decide +kernel
theorem dL_law_2242 : decode cL_law 2242 = .ok (.iload 5, 2) := by decide +kernel
theorem dL_law_2244 : decode cL_law 2244 = .ok (.ifCond .ne 15, 3) := by decide +kernel
theorem dL_law_2247 : decode cL_law 2247 = .ok (.aload_n 3, 1) := by decide +kernel
theorem dL_law_2248 : decode cL_law 2248 = .ok (.iconst 0, 1) := by decide +kernel
theorem dL_law_2249 : decode cL_law 2249 = .ok (.laload, 1) := by decide +kernel
theorem dL_law_2250 : decode cL_law 2250 = .ok (.iload 6, 2) := by decide +kernel
theorem dL_law_2252 : decode cL_law 2252 = .ok (.i2l, 1) := by decide +kernel
theorem dL_law_2253 : decode cL_law 2253 = .ok (.lcmp, 1) := by decide +kernel
theorem dL_law_2254 : decode cL_law 2254 = .ok (.ifCond .eq 5, 3) := by decide +kernel
theorem dL_law_2257 : decode cL_law 2257 = .ok (.iconst 0, 1) := by decide +kernel
theorem dL_law_2258 : decode cL_law 2258 = .ok (.ireturn, 1) := by decide +kernel
theorem dL_law_2259 : decode cL_law 2259 = .ok (.goto 426, 3) := by decide +kernel
theorem dL_law_2262 : decode cL_law 2262 = .ok (.aload_n 1, 1) := by decide +kernel
theorem dL_law_2263 : decode cL_law 2263 = .ok (.aload_n 0, 1) := by decide +kernel
theorem dL_law_2264 : decode cL_law 2264 = .ok (.iload 4, 2) := by decide +kernel
theorem dL_law_2266 : decode cL_law 2266 = .ok (.iconst 1, 1) := by decide +kernel
theorem dL_law_2267 : decode cL_law 2267 = .ok (.iadd, 1) := by decide +kernel
theorem dL_law_2268 : decode cL_law 2268 = .ok (.iaload, 1) := by decide +kernel
theorem dL_law_2269 : decode cL_law 2269 = .ok (.aload_n 0, 1) := by decide +kernel
theorem dL_law_2270 : decode cL_law 2270 = .ok (.iload 4, 2) := by decide +kernel
theorem dL_law_2272 : decode cL_law 2272 = .ok (.iconst 2, 1) := by decide +kernel
theorem dL_law_2273 : decode cL_law 2273 = .ok (.iadd, 1) := by decide +kernel
theorem dL_law_2274 : decode cL_law 2274 = .ok (.iaload, 1) := by decide +kernel
theorem dL_law_2275 : decode cL_law 2275 = .ok (.aload_n 3, 1) := by decide +kernel
theorem dL_law_2276 : decode cL_law 2276 = .ok (.invokestatic 241, 3) := by decide +kernel
theorem dL_law_2279 : decode cL_law 2279 = .ok (.istore 5, 2) := by decide +kernel
theorem dL_law_2281 : decode cL_law 2281 = .ok (.aload_n 2, 1) := by decide +kernel
theorem dL_law_2282 : decode cL_law 2282 = .ok (.aload_n 0, 1) := by decide +kernel
theorem dL_law_2283 : decode cL_law 2283 = .ok (.iload 4, 2) := by decide +kernel
theorem dL_law_2285 : decode cL_law 2285 = .ok (.iconst 1, 1) := by decide +kernel
theorem dL_law_2286 : decode cL_law 2286 = .ok (.iadd, 1) := by decide +kernel
theorem dL_law_2287 : decode cL_law 2287 = .ok (.iaload, 1) := by decide +kernel
theorem dL_law_2288 : decode cL_law 2288 = .ok (.aload_n 0, 1) := by decide +kernel
theorem dL_law_2289 : decode cL_law 2289 = .ok (.iload 4, 2) := by decide +kernel
theorem dL_law_2291 : decode cL_law 2291 = .ok (.iconst 2, 1) := by decide +kernel
theorem dL_law_2292 : decode cL_law 2292 = .ok (.iadd, 1) := by decide +kernel
theorem dL_law_2293 : decode cL_law 2293 = .ok (.iaload, 1) := by decide +kernel
theorem dL_law_2294 : decode cL_law 2294 = .ok (.invokevirtual 243, 3) := by decide +kernel
theorem dL_law_2297 : decode cL_law 2297 = .ok (.istore 6, 2) := by decide +kernel
theorem dL_law_2299 : decode cL_law 2299 = .ok (.aload_n 2, 1) := by decide +kernel
theorem dL_law_2300 : decode cL_law 2300 = .ok (.invokevirtual 140, 3) := by decide +kernel
theorem dL_law_2303 : decode cL_law 2303 = .ok (.iload 5, 2) := by decide +kernel
theorem dL_law_2305 : decode cL_law 2305 = .ok (.if_icmp .eq 5, 3) := by decide +kernel
theorem dL_law_2308 : decode cL_law 2308 = .ok (.iconst 0, 1) := by decide +kernel
theorem dL_law_2309 : decode cL_law 2309 = .ok (.ireturn, 1) := by decide +kernel
theorem dL_law_2310 : decode cL_law 2310 = .ok (.iload 5, 2) := by decide +kernel
theorem dL_law_2312 : decode cL_law 2312 = .ok (.ifCond .ne 15, 3) := by decide +kernel
theorem dL_law_2315 : decode cL_law 2315 = .ok (.aload_n 3, 1) := by decide +kernel
theorem dL_law_2316 : decode cL_law 2316 = .ok (.iconst 0, 1) := by decide +kernel
theorem dL_law_2317 : decode cL_law 2317 = .ok (.laload, 1) := by decide +kernel
theorem dL_law_2318 : decode cL_law 2318 = .ok (.iload 6, 2) := by decide +kernel
theorem dL_law_2320 : decode cL_law 2320 = .ok (.i2l, 1) := by decide +kernel
theorem dL_law_2321 : decode cL_law 2321 = .ok (.lcmp, 1) := by decide +kernel
theorem dL_law_2322 : decode cL_law 2322 = .ok (.ifCond .eq 5, 3) := by decide +kernel
theorem dL_law_2325 : decode cL_law 2325 = .ok (.iconst 0, 1) := by decide +kernel
theorem dL_law_2326 : decode cL_law 2326 = .ok (.ireturn, 1) := by decide +kernel
theorem dL_law_2327 : decode cL_law 2327 = .ok (.goto 358, 3) := by decide +kernel
theorem dL_law_2330 : decode cL_law 2330 = .ok (.aload_n 1, 1) := by decide +kernel
theorem dL_law_2331 : decode cL_law 2331 = .ok (.aload_n 0, 1) := by decide +kernel
theorem dL_law_2332 : decode cL_law 2332 = .ok (.iload 4, 2) := by decide +kernel
theorem dL_law_2334 : decode cL_law 2334 = .ok (.iconst 1, 1) := by decide +kernel
theorem dL_law_2335 : decode cL_law 2335 = .ok (.iadd, 1) := by decide +kernel
theorem dL_law_2336 : decode cL_law 2336 = .ok (.iaload, 1) := by decide +kernel
theorem dL_law_2337 : decode cL_law 2337 = .ok (.aload_n 3, 1) := by decide +kernel
theorem dL_law_2338 : decode cL_law 2338 = .ok (.invokestatic 244, 3) := by decide +kernel
theorem dL_law_2341 : decode cL_law 2341 = .ok (.istore 5, 2) := by decide +kernel
theorem dL_law_2343 : decode cL_law 2343 = .ok (.aload_n 2, 1) := by decide +kernel
theorem dL_law_2344 : decode cL_law 2344 = .ok (.aload_n 0, 1) := by decide +kernel
theorem dL_law_2345 : decode cL_law 2345 = .ok (.iload 4, 2) := by decide +kernel
theorem dL_law_2347 : decode cL_law 2347 = .ok (.iconst 1, 1) := by decide +kernel
theorem dL_law_2348 : decode cL_law 2348 = .ok (.iadd, 1) := by decide +kernel
theorem dL_law_2349 : decode cL_law 2349 = .ok (.iaload, 1) := by decide +kernel
theorem dL_law_2350 : decode cL_law 2350 = .ok (.invokevirtual 246, 3) := by decide +kernel
theorem dL_law_2353 : decode cL_law 2353 = .ok (.istore 6, 2) := by decide +kernel
theorem dL_law_2355 : decode cL_law 2355 = .ok (.aload_n 2, 1) := by decide +kernel
theorem dL_law_2356 : decode cL_law 2356 = .ok (.invokevirtual 140, 3) := by decide +kernel
theorem dL_law_2359 : decode cL_law 2359 = .ok (.iload 5, 2) := by decide +kernel
theorem dL_law_2361 : decode cL_law 2361 = .ok (.if_icmp .eq 5, 3) := by decide +kernel
theorem dL_law_2364 : decode cL_law 2364 = .ok (.iconst 0, 1) := by decide +kernel
theorem dL_law_2365 : decode cL_law 2365 = .ok (.ireturn, 1) := by decide +kernel
theorem dL_law_2366 : decode cL_law 2366 = .ok (.iload 5, 2) := by decide +kernel
theorem dL_law_2368 : decode cL_law 2368 = .ok (.ifCond .ne 15, 3) := by decide +kernel
theorem dL_law_2371 : decode cL_law 2371 = .ok (.aload_n 3, 1) := by decide +kernel
theorem dL_law_2372 : decode cL_law 2372 = .ok (.iconst 0, 1) := by decide +kernel
theorem dL_law_2373 : decode cL_law 2373 = .ok (.laload, 1) := by decide +kernel
theorem dL_law_2374 : decode cL_law 2374 = .ok (.iload 6, 2) := by decide +kernel
theorem dL_law_2376 : decode cL_law 2376 = .ok (.i2l, 1) := by decide +kernel
theorem dL_law_2377 : decode cL_law 2377 = .ok (.lcmp, 1) := by decide +kernel
theorem dL_law_2378 : decode cL_law 2378 = .ok (.ifCond .eq 5, 3) := by decide +kernel
theorem dL_law_2381 : decode cL_law 2381 = .ok (.iconst 0, 1) := by decide +kernel
theorem dL_law_2382 : decode cL_law 2382 = .ok (.ireturn, 1) := by decide +kernel
theorem dL_law_2383 : decode cL_law 2383 = .ok (.goto 302, 3) := by decide +kernel
theorem dL_law_2386 : decode cL_law 2386 = .ok (.aload_n 1, 1) := by decide +kernel
theorem dL_law_2387 : decode cL_law 2387 = .ok (.aload_n 0, 1) := by decide +kernel
theorem dL_law_2388 : decode cL_law 2388 = .ok (.iload 4, 2) := by decide +kernel
theorem dL_law_2390 : decode cL_law 2390 = .ok (.iconst 1, 1) := by decide +kernel
theorem dL_law_2391 : decode cL_law 2391 = .ok (.iadd, 1) := by decide +kernel
theorem dL_law_2392 : decode cL_law 2392 = .ok (.iaload, 1) := by decide +kernel
theorem dL_law_2393 : decode cL_law 2393 = .ok (.aload_n 3, 1) := by decide +kernel
theorem dL_law_2394 : decode cL_law 2394 = .ok (.invokestatic 247, 3) := by decide +kernel
theorem dL_law_2397 : decode cL_law 2397 = .ok (.istore 5, 2) := by decide +kernel
theorem dL_law_2399 : decode cL_law 2399 = .ok (.aload_n 2, 1) := by decide +kernel
theorem dL_law_2400 : decode cL_law 2400 = .ok (.aload_n 0, 1) := by decide +kernel
theorem dL_law_2401 : decode cL_law 2401 = .ok (.iload 4, 2) := by decide +kernel
theorem dL_law_2403 : decode cL_law 2403 = .ok (.iconst 1, 1) := by decide +kernel
theorem dL_law_2404 : decode cL_law 2404 = .ok (.iadd, 1) := by decide +kernel
theorem dL_law_2405 : decode cL_law 2405 = .ok (.iaload, 1) := by decide +kernel
theorem dL_law_2406 : decode cL_law 2406 = .ok (.invokevirtual 249, 3) := by decide +kernel
theorem dL_law_2409 : decode cL_law 2409 = .ok (.istore 6, 2) := by decide +kernel
theorem dL_law_2411 : decode cL_law 2411 = .ok (.aload_n 2, 1) := by decide +kernel
theorem dL_law_2412 : decode cL_law 2412 = .ok (.invokevirtual 140, 3) := by decide +kernel
theorem dL_law_2415 : decode cL_law 2415 = .ok (.iload 5, 2) := by decide +kernel
theorem dL_law_2417 : decode cL_law 2417 = .ok (.if_icmp .eq 5, 3) := by decide +kernel
theorem dL_law_2420 : decode cL_law 2420 = .ok (.iconst 0, 1) := by decide +kernel
theorem dL_law_2421 : decode cL_law 2421 = .ok (.ireturn, 1) := by decide +kernel
theorem dL_law_2422 : decode cL_law 2422 = .ok (.iload 5, 2) := by decide +kernel
theorem dL_law_2424 : decode cL_law 2424 = .ok (.ifCond .ne 15, 3) := by decide +kernel
theorem dL_law_2427 : decode cL_law 2427 = .ok (.aload_n 3, 1) := by decide +kernel
theorem dL_law_2428 : decode cL_law 2428 = .ok (.iconst 0, 1) := by decide +kernel
theorem dL_law_2429 : decode cL_law 2429 = .ok (.laload, 1) := by decide +kernel
theorem dL_law_2430 : decode cL_law 2430 = .ok (.iload 6, 2) := by decide +kernel
theorem dL_law_2432 : decode cL_law 2432 = .ok (.i2l, 1) := by decide +kernel
theorem dL_law_2433 : decode cL_law 2433 = .ok (.lcmp, 1) := by decide +kernel
theorem dL_law_2434 : decode cL_law 2434 = .ok (.ifCond .eq 5, 3) := by decide +kernel
theorem dL_law_2437 : decode cL_law 2437 = .ok (.iconst 0, 1) := by decide +kernel
theorem dL_law_2438 : decode cL_law 2438 = .ok (.ireturn, 1) := by decide +kernel
theorem dL_law_2439 : decode cL_law 2439 = .ok (.goto 246, 3) := by decide +kernel
theorem dL_law_2442 : decode cL_law 2442 = .ok (.aload_n 1, 1) := by decide +kernel
theorem dL_law_2443 : decode cL_law 2443 = .ok (.aload_n 0, 1) := by decide +kernel
theorem dL_law_2444 : decode cL_law 2444 = .ok (.iload 4, 2) := by decide +kernel
theorem dL_law_2446 : decode cL_law 2446 = .ok (.iconst 1, 1) := by decide +kernel
theorem dL_law_2447 : decode cL_law 2447 = .ok (.iadd, 1) := by decide +kernel
theorem dL_law_2448 : decode cL_law 2448 = .ok (.iaload, 1) := by decide +kernel
theorem dL_law_2449 : decode cL_law 2449 = .ok (.aload_n 3, 1) := by decide +kernel
theorem dL_law_2450 : decode cL_law 2450 = .ok (.invokestatic 250, 3) := by decide +kernel
theorem dL_law_2453 : decode cL_law 2453 = .ok (.istore 5, 2) := by decide +kernel
theorem dL_law_2455 : decode cL_law 2455 = .ok (.aload_n 2, 1) := by decide +kernel
theorem dL_law_2456 : decode cL_law 2456 = .ok (.aload_n 0, 1) := by decide +kernel
theorem dL_law_2457 : decode cL_law 2457 = .ok (.iload 4, 2) := by decide +kernel
theorem dL_law_2459 : decode cL_law 2459 = .ok (.iconst 1, 1) := by decide +kernel
theorem dL_law_2460 : decode cL_law 2460 = .ok (.iadd, 1) := by decide +kernel
theorem dL_law_2461 : decode cL_law 2461 = .ok (.iaload, 1) := by decide +kernel
theorem dL_law_2462 : decode cL_law 2462 = .ok (.invokevirtual 252, 3) := by decide +kernel
theorem dL_law_2465 : decode cL_law 2465 = .ok (.istore 6, 2) := by decide +kernel
theorem dL_law_2467 : decode cL_law 2467 = .ok (.aload_n 2, 1) := by decide +kernel
theorem dL_law_2468 : decode cL_law 2468 = .ok (.invokevirtual 140, 3) := by decide +kernel
theorem dL_law_2471 : decode cL_law 2471 = .ok (.iload 5, 2) := by decide +kernel
theorem dL_law_2473 : decode cL_law 2473 = .ok (.if_icmp .eq 5, 3) := by decide +kernel
theorem dL_law_2476 : decode cL_law 2476 = .ok (.iconst 0, 1) := by decide +kernel
theorem dL_law_2477 : decode cL_law 2477 = .ok (.ireturn, 1) := by decide +kernel
theorem dL_law_2478 : decode cL_law 2478 = .ok (.iload 5, 2) := by decide +kernel
theorem dL_law_2480 : decode cL_law 2480 = .ok (.ifCond .ne 15, 3) := by decide +kernel
theorem dL_law_2483 : decode cL_law 2483 = .ok (.aload_n 3, 1) := by decide +kernel
theorem dL_law_2484 : decode cL_law 2484 = .ok (.iconst 0, 1) := by decide +kernel
theorem dL_law_2485 : decode cL_law 2485 = .ok (.laload, 1) := by decide +kernel
theorem dL_law_2486 : decode cL_law 2486 = .ok (.iload 6, 2) := by decide +kernel
theorem dL_law_2488 : decode cL_law 2488 = .ok (.i2l, 1) := by decide +kernel
theorem dL_law_2489 : decode cL_law 2489 = .ok (.lcmp, 1) := by decide +kernel
theorem dL_law_2490 : decode cL_law 2490 = .ok (.ifCond .eq 5, 3) := by decide +kernel
theorem dL_law_2493 : decode cL_law 2493 = .ok (.iconst 0, 1) := by decide +kernel
theorem dL_law_2494 : decode cL_law 2494 = .ok (.ireturn, 1) := by decide +kernel
theorem dL_law_2495 : decode cL_law 2495 = .ok (.goto 190, 3) := by decide +kernel
theorem dL_law_2498 : decode cL_law 2498 = .ok (.aload_n 1, 1) := by decide +kernel
theorem dL_law_2499 : decode cL_law 2499 = .ok (.aload_n 0, 1) := by decide +kernel
theorem dL_law_2500 : decode cL_law 2500 = .ok (.iload 4, 2) := by decide +kernel
theorem dL_law_2502 : decode cL_law 2502 = .ok (.iconst 1, 1) := by decide +kernel
theorem dL_law_2503 : decode cL_law 2503 = .ok (.iadd, 1) := by decide +kernel
theorem dL_law_2504 : decode cL_law 2504 = .ok (.iaload, 1) := by decide +kernel
theorem dL_law_2505 : decode cL_law 2505 = .ok (.aload_n 0, 1) := by decide +kernel
theorem dL_law_2506 : decode cL_law 2506 = .ok (.iload 4, 2) := by decide +kernel
theorem dL_law_2508 : decode cL_law 2508 = .ok (.iconst 2, 1) := by decide +kernel
theorem dL_law_2509 : decode cL_law 2509 = .ok (.iadd, 1) := by decide +kernel
theorem dL_law_2510 : decode cL_law 2510 = .ok (.iaload, 1) := by decide +kernel
theorem dL_law_2511 : decode cL_law 2511 = .ok (.aload_n 0, 1) := by decide +kernel
theorem dL_law_2512 : decode cL_law 2512 = .ok (.iload 4, 2) := by decide +kernel
theorem dL_law_2514 : decode cL_law 2514 = .ok (.iconst 3, 1) := by decide +kernel
theorem dL_law_2515 : decode cL_law 2515 = .ok (.iadd, 1) := by decide +kernel
theorem dL_law_2516 : decode cL_law 2516 = .ok (.iaload, 1) := by decide +kernel
theorem dL_law_2517 : decode cL_law 2517 = .ok (.aload_n 3, 1) := by decide +kernel
theorem dL_law_2518 : decode cL_law 2518 = .ok (.invokestatic 253, 3) := by decide +kernel
theorem dL_law_2521 : decode cL_law 2521 = .ok (.istore 5, 2) := by decide +kernel
theorem dL_law_2523 : decode cL_law 2523 = .ok (.aload_n 2, 1) := by decide +kernel
theorem dL_law_2524 : decode cL_law 2524 = .ok (.aload_n 0, 1) := by decide +kernel
theorem dL_law_2525 : decode cL_law 2525 = .ok (.iload 4, 2) := by decide +kernel
theorem dL_law_2527 : decode cL_law 2527 = .ok (.iconst 1, 1) := by decide +kernel
theorem dL_law_2528 : decode cL_law 2528 = .ok (.iadd, 1) := by decide +kernel
theorem dL_law_2529 : decode cL_law 2529 = .ok (.iaload, 1) := by decide +kernel
theorem dL_law_2530 : decode cL_law 2530 = .ok (.aload_n 0, 1) := by decide +kernel
theorem dL_law_2531 : decode cL_law 2531 = .ok (.iload 4, 2) := by decide +kernel
theorem dL_law_2533 : decode cL_law 2533 = .ok (.iconst 2, 1) := by decide +kernel
theorem dL_law_2534 : decode cL_law 2534 = .ok (.iadd, 1) := by decide +kernel
theorem dL_law_2535 : decode cL_law 2535 = .ok (.iaload, 1) := by decide +kernel
theorem dL_law_2536 : decode cL_law 2536 = .ok (.aload_n 0, 1) := by decide +kernel
theorem dL_law_2537 : decode cL_law 2537 = .ok (.iload 4, 2) := by decide +kernel
theorem dL_law_2539 : decode cL_law 2539 = .ok (.iconst 3, 1) := by decide +kernel
theorem dL_law_2540 : decode cL_law 2540 = .ok (.iadd, 1) := by decide +kernel
theorem dL_law_2541 : decode cL_law 2541 = .ok (.iaload, 1) := by decide +kernel
theorem dL_law_2542 : decode cL_law 2542 = .ok (.invokevirtual 255, 3) := by decide +kernel
theorem dL_law_2545 : decode cL_law 2545 = .ok (.istore 6, 2) := by decide +kernel
theorem dL_law_2547 : decode cL_law 2547 = .ok (.aload_n 2, 1) := by decide +kernel
theorem dL_law_2548 : decode cL_law 2548 = .ok (.invokevirtual 140, 3) := by decide +kernel
theorem dL_law_2551 : decode cL_law 2551 = .ok (.iload 5, 2) := by decide +kernel
theorem dL_law_2553 : decode cL_law 2553 = .ok (.if_icmp .eq 5, 3) := by decide +kernel
theorem dL_law_2556 : decode cL_law 2556 = .ok (.iconst 0, 1) := by decide +kernel
theorem dL_law_2557 : decode cL_law 2557 = .ok (.ireturn, 1) := by decide +kernel
theorem dL_law_2558 : decode cL_law 2558 = .ok (.iload 5, 2) := by decide +kernel
theorem dL_law_2560 : decode cL_law 2560 = .ok (.ifCond .ne 15, 3) := by decide +kernel
theorem dL_law_2563 : decode cL_law 2563 = .ok (.aload_n 3, 1) := by decide +kernel
theorem dL_law_2564 : decode cL_law 2564 = .ok (.iconst 0, 1) := by decide +kernel
theorem dL_law_2565 : decode cL_law 2565 = .ok (.laload, 1) := by decide +kernel
theorem dL_law_2566 : decode cL_law 2566 = .ok (.iload 6, 2) := by decide +kernel
theorem dL_law_2568 : decode cL_law 2568 = .ok (.i2l, 1) := by decide +kernel
theorem dL_law_2569 : decode cL_law 2569 = .ok (.lcmp, 1) := by decide +kernel
theorem dL_law_2570 : decode cL_law 2570 = .ok (.ifCond .eq 5, 3) := by decide +kernel
theorem dL_law_2573 : decode cL_law 2573 = .ok (.iconst 0, 1) := by decide +kernel
theorem dL_law_2574 : decode cL_law 2574 = .ok (.ireturn, 1) := by decide +kernel
theorem dL_law_2575 : decode cL_law 2575 = .ok (.goto 110, 3) := by decide +kernel
theorem dL_law_2578 : decode cL_law 2578 = .ok (.aload_n 1, 1) := by decide +kernel
theorem dL_law_2579 : decode cL_law 2579 = .ok (.aload_n 0, 1) := by decide +kernel
theorem dL_law_2580 : decode cL_law 2580 = .ok (.iload 4, 2) := by decide +kernel
theorem dL_law_2582 : decode cL_law 2582 = .ok (.iconst 1, 1) := by decide +kernel
theorem dL_law_2583 : decode cL_law 2583 = .ok (.iadd, 1) := by decide +kernel
theorem dL_law_2584 : decode cL_law 2584 = .ok (.iaload, 1) := by decide +kernel
theorem dL_law_2585 : decode cL_law 2585 = .ok (.aload_n 3, 1) := by decide +kernel
theorem dL_law_2586 : decode cL_law 2586 = .ok (.invokestatic 256, 3) := by decide +kernel
theorem dL_law_2589 : decode cL_law 2589 = .ok (.istore 5, 2) := by decide +kernel
theorem dL_law_2591 : decode cL_law 2591 = .ok (.aload_n 2, 1) := by decide +kernel
theorem dL_law_2592 : decode cL_law 2592 = .ok (.aload_n 0, 1) := by decide +kernel
theorem dL_law_2593 : decode cL_law 2593 = .ok (.iload 4, 2) := by decide +kernel
theorem dL_law_2595 : decode cL_law 2595 = .ok (.iconst 1, 1) := by decide +kernel
theorem dL_law_2596 : decode cL_law 2596 = .ok (.iadd, 1) := by decide +kernel
theorem dL_law_2597 : decode cL_law 2597 = .ok (.iaload, 1) := by decide +kernel
theorem dL_law_2598 : decode cL_law 2598 = .ok (.invokevirtual 258, 3) := by decide +kernel
theorem dL_law_2601 : decode cL_law 2601 = .ok (.istore 6, 2) := by decide +kernel
theorem dL_law_2603 : decode cL_law 2603 = .ok (.aload_n 2, 1) := by decide +kernel
theorem dL_law_2604 : decode cL_law 2604 = .ok (.invokevirtual 140, 3) := by decide +kernel
theorem dL_law_2607 : decode cL_law 2607 = .ok (.iload 5, 2) := by decide +kernel
theorem dL_law_2609 : decode cL_law 2609 = .ok (.if_icmp .eq 5, 3) := by decide +kernel
theorem dL_law_2612 : decode cL_law 2612 = .ok (.iconst 0, 1) := by decide +kernel
theorem dL_law_2613 : decode cL_law 2613 = .ok (.ireturn, 1) := by decide +kernel
theorem dL_law_2614 : decode cL_law 2614 = .ok (.iload 5, 2) := by decide +kernel
theorem dL_law_2616 : decode cL_law 2616 = .ok (.ifCond .ne 15, 3) := by decide +kernel
theorem dL_law_2619 : decode cL_law 2619 = .ok (.aload_n 3, 1) := by decide +kernel
theorem dL_law_2620 : decode cL_law 2620 = .ok (.iconst 0, 1) := by decide +kernel
theorem dL_law_2621 : decode cL_law 2621 = .ok (.laload, 1) := by decide +kernel
theorem dL_law_2622 : decode cL_law 2622 = .ok (.iload 6, 2) := by decide +kernel
theorem dL_law_2624 : decode cL_law 2624 = .ok (.i2l, 1) := by decide +kernel
theorem dL_law_2625 : decode cL_law 2625 = .ok (.lcmp, 1) := by decide +kernel
theorem dL_law_2626 : decode cL_law 2626 = .ok (.ifCond .eq 5, 3) := by decide +kernel
theorem dL_law_2629 : decode cL_law 2629 = .ok (.iconst 0, 1) := by decide +kernel
theorem dL_law_2630 : decode cL_law 2630 = .ok (.ireturn, 1) := by decide +kernel
theorem dL_law_2631 : decode cL_law 2631 = .ok (.goto 54, 3) := by decide +kernel
theorem dL_law_2634 : decode cL_law 2634 = .ok (.aload_n 1, 1) := by decide +kernel
theorem dL_law_2635 : decode cL_law 2635 = .ok (.invokevirtual 259, 3) := by decide +kernel
theorem dL_law_2638 : decode cL_law 2638 = .ok (.aload_n 2, 1) := by decide +kernel
theorem dL_law_2639 : decode cL_law 2639 = .ok (.invokevirtual 262, 3) := by decide +kernel
theorem dL_law_2642 : decode cL_law 2642 = .ok (.if_icmp .eq 43, 3) := by decide +kernel
theorem dL_law_2645 : decode cL_law 2645 = .ok (.iconst 0, 1) := by decide +kernel
theorem dL_law_2646 : decode cL_law 2646 = .ok (.ireturn, 1) := by decide +kernel
theorem dL_law_2647 : decode cL_law 2647 = .ok (.aload_n 1, 1) := by decide +kernel
theorem dL_law_2648 : decode cL_law 2648 = .ok (.invokevirtual 263, 3) := by decide +kernel
theorem dL_law_2651 : decode cL_law 2651 = .ok (.aload_n 2, 1) := by decide +kernel
theorem dL_law_2652 : decode cL_law 2652 = .ok (.invokevirtual 266, 3) := by decide +kernel
theorem dL_law_2655 : decode cL_law 2655 = .ok (.if_icmp .eq 30, 3) := by decide +kernel
theorem dL_law_2658 : decode cL_law 2658 = .ok (.iconst 0, 1) := by decide +kernel
theorem dL_law_2659 : decode cL_law 2659 = .ok (.ireturn, 1) := by decide +kernel
theorem dL_law_2660 : decode cL_law 2660 = .ok (.aload_n 1, 1) := by decide +kernel
theorem dL_law_2661 : decode cL_law 2661 = .ok (.aload_n 0, 1) := by decide +kernel
theorem dL_law_2662 : decode cL_law 2662 = .ok (.iload 4, 2) := by decide +kernel
theorem dL_law_2664 : decode cL_law 2664 = .ok (.iconst 1, 1) := by decide +kernel
theorem dL_law_2665 : decode cL_law 2665 = .ok (.iadd, 1) := by decide +kernel
theorem dL_law_2666 : decode cL_law 2666 = .ok (.iaload, 1) := by decide +kernel
theorem dL_law_2667 : decode cL_law 2667 = .ok (.invokevirtual 267, 3) := by decide +kernel
theorem dL_law_2670 : decode cL_law 2670 = .ok (.aload_n 2, 1) := by decide +kernel
theorem dL_law_2671 : decode cL_law 2671 = .ok (.aload_n 0, 1) := by decide +kernel
theorem dL_law_2672 : decode cL_law 2672 = .ok (.iload 4, 2) := by decide +kernel
theorem dL_law_2674 : decode cL_law 2674 = .ok (.iconst 1, 1) := by decide +kernel
theorem dL_law_2675 : decode cL_law 2675 = .ok (.iadd, 1) := by decide +kernel
theorem dL_law_2676 : decode cL_law 2676 = .ok (.iaload, 1) := by decide +kernel
theorem dL_law_2677 : decode cL_law 2677 = .ok (.invokevirtual 270, 3) := by decide +kernel
theorem dL_law_2680 : decode cL_law 2680 = .ok (.if_icmp .eq 5, 3) := by decide +kernel
theorem dL_law_2683 : decode cL_law 2683 = .ok (.iconst 0, 1) := by decide +kernel
theorem dL_law_2684 : decode cL_law 2684 = .ok (.ireturn, 1) := by decide +kernel
theorem dL_law_2685 : decode cL_law 2685 = .ok (.iinc 4 7, 3) := by decide +kernel
theorem dL_law_2688 : decode cL_law 2688 = .ok (.goto (-2665), 3) := by decide +kernel
theorem dL_law_2691 : decode cL_law 2691 = .ok (.iconst 1, 1) := by decide +kernel
theorem dL_law_2692 : decode cL_law 2692 = .ok (.ireturn, 1) := by decide +kernel
