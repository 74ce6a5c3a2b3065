theorem dL_law__2292 : decode cL_law_ 2292 = .ok (.iadd, 1) := by decide +kernel
theorem dL_law__2293 : decode cL_law_ 2293 = .ok (.iaload, 1) := by decide +kernel
theorem dL_law__2294 : decode cL_law_ 2294 = .ok (.aload_n 0, 1) := by decide +kernel
theorem dL_law__2295 : decode cL_law_ 2295 = .ok (.iload 4, 2) := by decide +kernel
theorem dL_law__2297 : decode cL_law_ 2297 = .ok (.iconst 4, 1) := by decide +kernel
theorem dL_law__2298 : decode cL_law_ 2298 = .ok (.iadd, 1) := by decide +kernel
theorem dL_law__2299 : decode cL_law_ 2299 = .ok (.iaload, 1) := by decide +kernel
theorem dL_law__2300 : decode cL_law_ 2300 = .ok (.aload_n 3, 1) := by decide +kernel
theorem dL_law__2301 : decode cL_law_ 2301 = .ok (.invokestatic 237, 3) := by decide +kernel
theorem dL_law__2304 : decode cL_law_ 2304 = .ok (.istore 5, 2) := by decide +kernel
theorem dL_law__2306 : decode cL_law_ 2306 = .ok (.aload_n 2, 1) := by decide +kernel
theorem dL_law__2307 : decode cL_law_ 2307 = .ok (.aload_n 0, 1) := by decide +kernel
theorem dL_law__2308 : decode cL_law_ 2308 = .ok (.iload 4, 2) := by decide +kernel
theorem dL_law__2310 : decode cL_law_ 2310 = .ok (.iconst 1, 1) := by decide +kernel
theorem dL_law__2311 : decode cL_law_ 2311 = .ok (.iadd, 1) := by decide +kernel
theorem dL_law__2312 : decode cL_law_ 2312 = .ok (.iaload, 1) := by decide +kernel
theorem dL_law__2313 : decode cL_law_ 2313 = .ok (.aload_n 0, 1) := by decide +kernel
theorem dL_law__2314 : decode cL_law_ 2314 = .ok (.iload 4, 2) := by decide +kernel
theorem dL_law__2316 : decode cL_law_ 2316 = .ok (.iconst 2, 1) := by decide +kernel
theorem dL_law__2317 : decode cL_law_ 2317 = .ok (.iadd, 1) := by decide +kernel
theorem dL_law__2318 : decode cL_law_ 2318 = .ok (.iaload, 1) := by decide +kernel
theorem dL_law__2319 : decode cL_law_ 2319 = .ok (.aload_n 0, 1) := by decide +kernel
theorem dL_law__2320 : decode cL_law_ 2320 = .ok (.iload 4, 2) := by decide +kernel
theorem dL_law__2322 : decode cL_law_ 2322 = .ok (.iconst 3, 1) := by decide +kernel
theorem dL_law__2323 : decode cL_law_ 2323 = .ok (.iadd, 1) := by decide +kernel
theorem dL_law__2324 : decode cL_law_ 2324 = .ok (.iaload, 1) := by decide +kernel
theorem dL_law__2325 : decode cL_law_ 2325 = .ok (.aload_n 0, 1) := by decide +kernel
theorem dL_law__2326 : decode cL_law_ 2326 = .ok (.iload 4, 2) := by decide +kernel
theorem dL_law__2328 : decode cL_law_ 2328 = .ok (.iconst 4, 1) := by decide +kernel
theorem dL_law__2329 : decode cL_law_ 2329 = .ok (.iadd, 1) := by decide +kernel
theorem dL_law__2330 : decode cL_law_ 2330 = .ok (.iaload, 1) := by decide +kernel
theorem dL_law__2331 : decode cL_law_ 2331 = .ok (.invokevirtual 239, 3) := by decide +kernel
theorem dL_law__2334 : decode cL_law_ 2334 = .ok (.istore 6, 2) := by decide +kernel
theorem dL_law__2336 : decode cL_law_ 2336 = .ok (.aload_n 2, 1) := by decide +kernel
theorem dL_law__2337 : decode cL_law_ 2337 = .ok (.invokevirtual 133, 3) := by decide +kernel
theorem dL_law__2340 : decode cL_law_ 2340 = .ok (.iload 5, 2) := by decide +kernel
theorem dL_law__2342 : decode cL_law_ 2342 = .ok (.if_icmp .eq 5, 3) := by decide +kernel
theorem dL_law__2345 : decode cL_law_ 2345 = .ok (.iconst 0, 1) := by decide +kernel
theorem dL_law__2346 : decode cL_law_ 2346 = .ok (.ireturn, 1) := by decide +kernel
theorem dL_law__2347 : decode cL_law_ 2347 = .ok (.iload 5, 2) := by decide +kernel
theorem dL_law__2349 : decode cL_law_ 2349 = .ok (.ifCond .ne 15, 3) := by decide +kernel
theorem dL_law__2352 : decode cL_law_ 2352 = .ok (.aload_n 3, 1) := by decide +kernel
theorem dL_law__2353 : decode cL_law_ 2353 = .ok (.iconst 0, 1) := by decide +kernel
theorem dL_law__2354 : decode cL_law_ 2354 = .ok (.laload, 1) := by decide +kernel
theorem dL_law__2355 : decode cL_law_ 2355 = .ok (.iload 6, 2) := by decide +kernel
theorem dL_law__2357 : decode cL_law_ 2357 = .ok (.i2l, 1) := by decide +kernel
theorem dL_law__2358 : decode cL_law_ 2358 = .ok (.lcmp, 1) := by decide +kernel
theorem dL_law__2359 : decode cL_law_ 2359 = .ok (.ifCond .eq 5, 3) := by decide +kernel
theorem dL_law__2362 : decode cL_law_ 2362 = .ok (.iconst 0, 1) := by decide +kernel
theorem dL_law__2363 : decode cL_law_ 2363 = .ok (.ireturn, 1) := by decide +kernel
theorem dL_law__2364 : decode cL_law_ 2364 = .ok (.goto 369, 3) := by decide +kernel
theorem dL_law__2367 : decode cL_law_ 2367 = .ok (.aload_n 1, 1) := by decide +kernel
theorem dL_law__2368 : decode cL_law_ 2368 = .ok (.aload_n 0, 1) := by decide +kernel
theorem dL_law__2369 : decode cL_law_ 2369 = .ok (.iload 4, 2) := by decide +kernel
theorem dL_law__2371 : decode cL_law_ 2371 = .ok (.iconst 1, 1) := by decide +kernel
theorem dL_law__2372 : decode cL_law_ 2372 = .ok (.iadd, 1) := by decide +kernel
theorem dL_law__2373 : decode cL_law_ 2373 = .ok (.iaload, 1) := by decide +kernel
theorem dL_law__2374 : decode cL_law_ 2374 = .ok (.aload_n 0, 1) := by decide +kernel
theorem dL_law__2375 : decode cL_law_ 2375 = .ok (.iload 4, 2) := by decide +kernel
theorem dL_law__2377 : decode cL_law_ 2377 = .ok (.iconst 2, 1) := by decide +kernel
theorem dL_law__2378 : decode cL_law_ 2378 = .ok (.iadd, 1) := by decide +kernel
theorem dL_law__2379 : decode cL_law_ 2379 = .ok (.iaload, 1) := by decide +kernel
theorem dL_law__2380 : decode cL_law_ 2380 = .ok (.aload_n 0, 1) := by decide +kernel
theorem dL_law__2381 : decode cL_law_ 2381 = .ok (.iload 4, 2) := by decide +kernel
theorem dL_law__2383 : decode cL_law_ 2383 = .ok (.iconst 3, 1) := by decide +kernel
theorem dL_law__2384 : decode cL_law_ 2384 = .ok (.iadd, 1) := by decide +kernel
theorem dL_law__2385 : decode cL_law_ 2385 = .ok (.iaload, 1) := by decide +kernel
theorem dL_law__2386 : decode cL_law_ 2386 = .ok (.aload_n 3, 1) := by decide +kernel
theorem dL_law__2387 : decode cL_law_ 2387 = .ok (.invokestatic 240, 3) := by decide +kernel
theorem dL_law__2390 : decode cL_law_ 2390 = .ok (.istore 5, 2) := by decide +kernel
theorem dL_law__2392 : decode cL_law_ 2392 = .ok (.aload_n 2, 1) := by decide +kernel
theorem dL_law__2393 : decode cL_law_ 2393 = .ok (.aload_n 0, 1) := by decide +kernel
theorem dL_law__2394 : decode cL_law_ 2394 = .ok (.iload 4, 2) := by decide +kernel
theorem dL_law__2396 : decode cL_law_ 2396 = .ok (.iconst 1, 1) := by decide +kernel
theorem dL_law__2397 : decode cL_law_ 2397 = .ok (.iadd, 1) := by decide +kernel
theorem dL_law__2398 : decode cL_law_ 2398 = .ok (.iaload, 1) := by decide +kernel
theorem dL_law__2399 : decode cL_law_ 2399 = .ok (.aload_n 0, 1) := by decide +kernel
theorem dL_law__2400 : decode cL_law_ 2400 = .ok (.iload 4, 2) := by decide +kernel
theorem dL_law__2402 : decode cL_law_ 2402 = .ok (.iconst 2, 1) := by decide +kernel
theorem dL_law__2403 : decode cL_law_ 2403 = .ok (.iadd, 1) := by decide +kernel
theorem dL_law__2404 : decode cL_law_ 2404 = .ok (.iaload, 1) := by decide +kernel
theorem dL_law__2405 : decode cL_law_ 2405 = .ok (.aload_n 0, 1) := by decide +kernel
theorem dL_law__2406 : decode cL_law_ 2406 = .ok (.iload 4, 2) := by decide +kernel
theorem dL_law__2408 : decode cL_law_ 2408 = .ok (.iconst 3, 1) := by decide +kernel
theorem dL_law__2409 : decode cL_law_ 2409 = .ok (.iadd, 1) := by decide +kernel
theorem dL_law__2410 : decode cL_law_ 2410 = .ok (.iaload, 1) := by decide +kernel
theorem dL_law__2411 : decode cL_law_ 2411 = .ok (.invokevirtual 242, 3) := by decide +kernel
theorem dL_law__2414 : decode cL_law_ 2414 = .ok (.istore 6, 2) := by decide +kernel
theorem dL_law__2416 : decode cL_law_ 2416 = .ok (.aload_n 2, 1) := by decide +kernel
theorem dL_law__2417 : decode cL_law_ 2417 = .ok (.invokevirtual 133, 3) := by decide +kernel
theorem dL_law__2420 : decode cL_law_ 2420 = .ok (.iload 5, 2) := by decide +kernel
theorem dL_law__2422 : decode cL_law_ 2422 = .ok (.if_icmp .eq 5, 3) := by decide +kernel
theorem dL_law__2425 : decode cL_law_ 2425 = .ok (.iconst 0, 1) := by decide +kernel
theorem dL_law__2426 : decode cL_law_ 2426 = .ok (.ireturn, 1) := by decide +kernel
theorem dL_law__2427 : decode cL_law_ 2427 = .ok (.iload 5, 2) := by decide +kernel
theorem dL_law__2429 : decode cL_law_ 2429 = .ok (.ifCond .ne 15, 3) := by decide +kernel
theorem dL_law__2432 : decode cL_law_ 2432 = .ok (.aload_n 3, 1) := by decide +kernel
theorem dL_law__2433 : decode cL_law_ 2433 = .ok (.iconst 0, 1) := by decide +kernel
theorem dL_law__2434 : decode cL_law_ 2434 = .ok (.laload, 1) := by decide +kernel
theorem dL_law__2435 : decode cL_law_ 2435 = .ok (.iload 6, 2) := by decide +kernel
theorem dL_law__2437 : decode cL_law_ 2437 = .ok (.i2l, 1) := by decide +kernel
theorem dL_law__2438 : decode cL_law_ 2438 = .ok (.lcmp, 1) := by decide +kernel
theorem dL_law__2439 : decode cL_law_ 2439 = .ok (.ifCond .eq 5, 3) := by decide +kernel
theorem dL_law__2442 : decode cL_law_ 2442 = .ok (.iconst 0, 1) := by decide +kernel
theorem dL_law__2443 : decode cL_law_ 2443 = .ok (.ireturn, 1) := by decide +kernel
theorem dL_law__2444 : decode cL_law_ 2444 = .ok (.goto 289, 3) := by decide +kernel
theorem dL_law__2447 : decode cL_law_ 2447 = .ok (.aload_n 1, 1) := by decide +kernel
theorem dL_law__2448 : decode cL_law_ 2448 = .ok (.aload_n 0, 1) := by decide +kernel
theorem dL_law__2449 : decode cL_law_ 2449 = .ok (.iload 4, 2) := by decide +kernel
theorem dL_law__2451 : decode cL_law_ 2451 = .ok (.iconst 1, 1) := by decide +kernel
theorem dL_law__2452 : decode cL_law_ 2452 = .ok (.iadd, 1) := by decide +kernel
theorem dL_law__2453 : decode cL_law_ 2453 = .ok (.iaload, 1) := by decide +kernel
theorem dL_law__2454 : decode cL_law_ 2454 = .ok (.aload_n 0, 1) := by decide +kernel
theorem dL_law__2455 : decode cL_law_ 2455 = .ok (.iload 4, 2) := by decide +kernel
theorem dL_law__2457 : decode cL_law_ 2457 = .ok (.iconst 2, 1) := by decide +kernel
theorem dL_law__2458 : decode cL_law_ 2458 = .ok (.iadd, 1) := by decide +kernel
theorem dL_law__2459 : decode cL_law_ 2459 = .ok (.iaload, 1) := by decide +kernel
theorem dL_law__2460 : decode cL_law_ 2460 = .ok (.aload_n 0, 1) := by decide +kernel
theorem dL_law__2461 : decode cL_law_ 2461 = .ok (.iload 4, 2) := by decide +kernel
theorem dL_law__2463 : decode cL_law_ 2463 = .ok (.iconst 3, 1) := by decide +kernel
theorem dL_law__2464 : decode cL_law_ 2464 = .ok (.iadd, 1) := by decide +kernel
theorem dL_law__2465 : decode cL_law_ 2465 = .ok (.iaload, 1) := by decide +kernel
theorem dL_law__2466 : decode cL_law_ 2466 = .ok (.aload_n 0, 1) := by decide +kernel
theorem dL_law__2467 : decode cL_law_ 2467 = .ok (.iload 4, 2) := by decide +kernel
theorem dL_law__2469 : decode cL_law_ 2469 = .ok (.iconst 4, 1) := by decide +kernel
theorem dL_law__2470 : decode cL_law_ 2470 = .ok (.iadd, 1) := by decide +kernel
theorem dL_law__2471 : decode cL_law_ 2471 = .ok (.iaload, 1) := by decide +kernel
theorem dL_law__2472 : decode cL_law_ 2472 = .ok (.aload_n 3, 1) := by decide +kernel
theorem dL_law__2473 : decode cL_law_ 2473 = .ok (.invokestatic 243, 3) := by decide +kernel
theorem dL_law__2476 : decode cL_law_ 2476 = .ok (.istore 5, 2) := by decide +kernel
theorem dL_law__2478 : decode cL_law_ 2478 = .ok (.aload_n 2, 1) := by decide +kernel
theorem dL_law__2479 : decode cL_law_ 2479 = .ok (.aload_n 0, 1) := by decide +kernel
theorem dL_law__2480 : decode cL_law_ 2480 = .ok (.iload 4, 2) := by decide +kernel
theorem dL_law__2482 : decode cL_law_ 2482 = .ok (.iconst 1, 1) := by decide +kernel
theorem dL_law__2483 : decode cL_law_ 2483 = .ok (.iadd, 1) := by decide +kernel
theorem dL_law__2484 : decode cL_law_ 2484 = .ok (.iaload, 1) := by decide +kernel
theorem dL_law__2485 : decode cL_law_ 2485 = .ok (.aload_n 0, 1) := by decide +kernel
theorem dL_law__2486 : decode cL_law_ 2486 = .ok (.iload 4, 2) := by decide +kernel
theorem dL_law__2488 : decode cL_law_ 2488 = .ok (.iconst 2, 1) := by decide +kernel
theorem dL_law__2489 : decode cL_law_ 2489 = .ok (.iadd, 1) := by decide +kernel
theorem dL_law__2490 : decode cL_law_ 2490 = .ok (.iaload, 1) := by decide +kernel
theorem dL_law__2491 : decode cL_law_ 2491 = .ok (.aload_n 0, 1) := by decide +kernel
theorem dL_law__2492 : decode cL_law_ 2492 = .ok (.iload 4, 2) := by decide +kernel
theorem dL_law__2494 : decode cL_law_ 2494 = .ok (.iconst 3, 1) := by decide +kernel
theorem dL_law__2495 : decode cL_law_ 2495 = .ok (.iadd, 1) := by decide +kernel
theorem dL_law__2496 : decode cL_law_ 2496 = .ok (.iaload, 1) := by decide +kernel
theorem dL_law__2497 : decode cL_law_ 2497 = .ok (.aload_n 0, 1) := by decide +kernel
theorem dL_law__2498 : decode cL_law_ 2498 = .ok (.iload 4, 2) := by decide +kernel
theorem dL_law__2500 : decode cL_law_ 2500 = .ok (.iconst 4, 1) := by decide +kernel
theorem dL_law__2501 : decode cL_law_ 2501 = .ok (.iadd, 1) := by decide +kernel
theorem dL_law__2502 : decode cL_law_ 2502 = .ok (.iaload, 1) := by decide +kernel
theorem dL_law__2503 : decode cL_law_ 2503 = .ok (.invokevirtual 245, 3) := by decide +kernel
theorem dL_law__2506 : decode cL_law_ 2506 = .ok (.istore 6, 2) := by decide +kernel
theorem dL_law__2508 : decode cL_law_ 2508 = .ok (.aload_n 2, 1) := by decide +kernel
theorem dL_law__2509 : decode cL_law_ 2509 = .ok (.invokevirtual 133, 3) := by decide +kernel
theorem dL_law__2512 : decode cL_law_ 2512 = .ok (.iload 5, 2) := by decide +kernel
theorem dL_law__2514 : decode cL_law_ 2514 = .ok (.if_icmp .eq 5, 3) := by decide +kernel
theorem dL_law__2517 : decode cL_law_ 2517 = .ok (.iconst 0, 1) := by decide +kernel
theorem dL_law__2518 : decode cL_law_ 2518 = .ok (.ireturn, 1) := by decide +kernel
theorem dL_law__2519 : decode cL_law_ 2519 = .ok (.iload 5, 2) := by decide +kernel
theorem dL_law__2521 : decode cL_law_ 2521 = .ok (.ifCond .ne 15, 3) := by decide +kernel
theorem dL_law__2524 : decode cL_law_ 2524 = .ok (.aload_n 3, 1) := by decide +kernel
theorem dL_law__2525 : decode cL_law_ 2525 = .ok (.iconst 0, 1) := by decide +kernel
theorem dL_law__2526 : decode cL_law_ 2526 = .ok (.laload, 1) := by decide +kernel
theorem dL_law__2527 : decode cL_law_ 2527 = .ok (.iload 6, 2) := by decide +kernel
theorem dL_law__2529 : decode cL_law_ 2529 = .ok (.i2l, 1) := by decide +kernel
theorem dL_law__2530 : decode cL_law_ 2530 = .ok (.lcmp, 1) := by decide +kernel
theorem dL_law__2531 : decode cL_law_ 2531 = .ok (.ifCond .eq 5, 3) := by decide +kernel
theorem dL_law__2534 : decode cL_law_ 2534 = .ok (.iconst 0, 1) := by decide +kernel
theorem dL_law__2535 : decode cL_law_ 2535 = .ok (.ireturn, 1) := by decide +kernel
theorem dL_law__2536 : decode cL_law_ 2536 = .ok (.goto 197, 3) := by decide +kernel
theorem dL_law__2539 : decode cL_law_ 2539 = .ok (.aload_n 1, 1) := by decide +kernel
theorem dL_law__2540 : decode cL_law_ 2540 = .ok (.aload_n 0, 1) := by decide +kernel
theorem dL_law__2541 : decode cL_law_ 2541 = .ok (.iload 4, 2) := by decide +kernel
theorem dL_law__2543 : decode cL_law_ 2543 = .ok (.iconst 1, 1) := by decide +kernel
theorem dL_law__2544 : decode cL_law_ 2544 = .ok (.iadd, 1) := by decide +kernel
theorem dL_law__2545 : decode cL_law_ 2545 = .ok (.iaload, 1) := by decide +kernel
theorem dL_law__2546 : decode cL_law_ 2546 = .ok (.aload_n 0, 1) := by decide +kernel
theorem dL_law__2547 : decode cL_law_ 2547 = .ok (.iload 4, 2) := by decide +kernel
theorem dL_law__2549 : decode cL_law_ 2549 = .ok (.iconst 2, 1) := by decide +kernel
theorem dL_law__2550 : decode cL_law_ 2550 = .ok (.iadd, 1) := by decide +kernel
theorem dL_law__2551 : decode cL_law_ 2551 = .ok (.iaload, 1) := by decide +kernel
theorem dL_law__2552 : decode cL_law_ 2552 = .ok (.aload_n 0, 1) := by decide +kernel
theorem dL_law__2553 : decode cL_law_ 2553 = .ok (.iload 4, 2) := by decide +kernel
theorem dL_law__2555 : decode cL_law_ 2555 = .ok (.iconst 3, 1) := by decide +kernel
theorem dL_law__2556 : decode cL_law_ 2556 = .ok (.iadd, 1) := by decide +kernel
theorem dL_law__2557 : decode cL_law_ 2557 = .ok (.iaload, 1) := by decide +kernel
theorem dL_law__2558 : decode cL_law_ 2558 = .ok (.aload_n 0, 1) := by decide +kernel
theorem dL_law__2559 : decode cL_law_ 2559 = .ok (.iload 4, 2) := by decide +kernel
theorem dL_law__2561 : decode cL_law_ 2561 = .ok (.iconst 4, 1) := by decide +kernel
theorem dL_law__2562 : decode cL_law_ 2562 = .ok (.iadd, 1) := by decide +kernel
theorem dL_law__2563 : decode cL_law_ 2563 = .ok (.iaload, 1) := by decide +kernel
theorem dL_law__2564 : decode cL_law_ 2564 = .ok (.aload_n 0, 1) := by decide +kernel
theorem dL_law__2565 : decode cL_law_ 2565 = .ok (.iload 4, 2) := by decide +kernel
theorem dL_law__2567 : decode cL_law_ 2567 = .ok (.iconst 5, 1) := by decide +kernel
theorem dL_law__2568 : decode cL_law_ 2568 = .ok (.iadd, 1) := by decide +kernel
theorem dL_law__2569 : decode cL_law_ 2569 = .ok (.iaload, 1) := by decide +kernel
theorem dL_law__2570 : decode cL_law_ 2570 = .ok (.aload_n 0, 1) := by decide +kernel
theorem dL_law__2571 : decode cL_law_ 2571 = .ok (.iload 4, 2) := by decide +kernel
theorem dL_law__2573 : decode cL_law_ 2573 = .ok (.bipush 6, 2) := by decide +kernel
theorem dL_law__2575 : decode cL_law_ 2575 = .ok (.iadd, 1) := by decide +kernel
theorem dL_law__2576 : decode cL_law_ 2576 = .ok (.iaload, 1) := by decide +kernel
theorem dL_law__2577 : decode cL_law_ 2577 = .ok (.aload_n 3, 1) := by decide +kernel
theorem dL_law__2578 : decode cL_law_ 2578 = .ok (.invokestatic 246, 3) := by decide +kernel
theorem dL_law__2581 : decode cL_law_ 2581 = .ok (.istore 5, 2) := by decide +kernel
theorem dL_law__2583 : decode cL_law_ 2583 = .ok (.aload_n 2, 1) := by decide +kernel
theorem dL_law__2584 : decode cL_law_ 2584 = .ok (.aload_n 0, 1) := by decide +kernel
theorem dL_law__2585 : decode cL_law_ 2585 = .ok (.iload 4, 2) := by decide +kernel
theorem dL_law__2587 : decode cL_law_ 2587 = .ok (.iconst 1, 1) := by decide +kernel
theorem dL_law__2588 : decode cL_law_ 2588 = .ok (.iadd, 1) := by decide +kernel
theorem dL_law__2589 : decode cL_law_ 2589 = .ok (.iaload, 1) := by decide +kernel
theorem dL_law__2590 : decode cL_law_ 2590 = .ok (.aload_n 0, 1) := by decide +kernel
theorem dL_law__2591 : decode cL_law_ 2591 = .ok (.iload 4, 2) := by decide +kernel
theorem dL_law__2593 : decode cL_law_ 2593 = .ok (.iconst 2, 1) := by decide +kernel
theorem dL_law__2594 : decode cL_law_ 2594 = .ok (.iadd, 1) := by decide +kernel
theorem dL_law__2595 : decode cL_law_ 2595 = .ok (.iaload, 1) := by decide +kernel
theorem dL_law__2596 : decode cL_law_ 2596 = .ok (.aload_n 0, 1) := by decide +kernel
theorem dL_law__2597 : decode cL_law_ 2597 = .ok (.iload 4, 2) := by decide +kernel
theorem dL_law__2599 : decode cL_law_ 2599 = .ok (.iconst 3, 1) := by decide +kernel
theorem dL_law__2600 : decode cL_law_ 2600 = .ok (.iadd, 1) := by decide +kernel
theorem dL_law__2601 : decode cL_law_ 2601 = .ok (.iaload, 1) := by decide +kernel
theorem dL_law__2602 : decode cL_law_ 2602 = .ok (.aload_n 0, 1) := by decide +kernel
theorem dL_law__2603 : decode cL_law_ 2603 = .ok (.iload 4, 2) := by decide +kernel
theorem dL_law__2605 : decode cL_law_ 2605 = .ok (.iconst 4, 1) := by decide +kernel
theorem dL_law__2606 : decode cL_law_ 2606 = .ok (.iadd, 1) := by decide +kernel
theorem dL_law__2607 : decode cL_law_ 2607 = .ok (.iaload, 1) := by decide +kernel
theorem dL_law__2608 : decode cL_law_ 2608 = .ok (.aload_n 0, 1) := by decide +kernel
theorem dL_law__2609 : decode cL_law_ 2609 = .ok (.iload 4, 2) := by decide +kernel
theorem dL_law__2611 : decode cL_law_ 2611 = .ok (.iconst 5, 1) := by decide +kernel
theorem dL_law__2612 : decode cL_law_ 2612 = .ok (.iadd, 1) := by decide +kernel
theorem dL_law__2613 : decode cL_law_ 2613 = .ok (.iaload, 1) := by decide +kernel
theorem dL_law__2614 : decode cL_law_ 2614 = .ok (.aload_n 0, 1) := by decide +kernel
theorem dL_law__2615 : decode cL_law_ 2615 = .ok (.iload 4, 2) := by decide +kernel
theorem dL_law__2617 : decode cL_law_ 2617 = .ok (.bipush 6, 2) := by decide +kernel
theorem dL_law__2619 : decode cL_law_ 2619 = .ok (.iadd, 1) := by decide +kernel
theorem dL_law__2620 : decode cL_law_ 2620 = .ok (.iaload, 1) := by decide +kernel
theorem dL_law__2621 : decode cL_law_ 2621 = .ok (.invokevirtual 249, 3) := by decide +kernel
theorem dL_law__2624 : decode cL_law_ 2624 = .ok (.istore 6, 2) := by decide +kernel
theorem dL_law__2626 : decode cL_law_ 2626 = .ok (.aload_n 2, 1) := by decide +kernel
theorem dL_law__2627 : decode cL_law_ 2627 = .ok (.invokevirtual 133, 3) := by decide +kernel
theorem dL_law__2630 : decode cL_law_ 2630 = .ok (.iload 5, 2) := by decide +kernel
theorem dL_law__2632 : decode cL_law_ 2632 = .ok (.if_icmp .eq 5, 3) := by decide +kernel
theorem dL_law__2635 : decode cL_law_ 2635 = .ok (.iconst 0, 1) := by decide +kernel
theorem dL_law__2636 : decode cL_law_ 2636 = .ok (.ireturn, 1) := by decide +kernel
theorem dL_law__2637 : decode cL_law_ 2637 = .ok (.iload 5, 2) := by decide +kernel
theorem dL_law__2639 : decode cL_law_ 2639 = .ok (.ifCond .ne 15, 3) := by decide +kernel
theorem dL_law__2642 : decode cL_law_ 2642 = .ok (.aload_n 3, 1) := by decide +kernel
theorem dL_law__2643 : decode cL_law_ 2643 = .ok (.iconst 0, 1) := by decide +kernel
theorem dL_law__2644 : decode cL_law_ 2644 = .ok (.laload, 1) := by decide +kernel
theorem dL_law__2645 : decode cL_law_ 2645 = .ok (.iload 6, 2) := by decide +kernel
theorem dL_law__2647 : decode cL_law_ 2647 = .ok (.i2l, 1) := by decide +kernel
theorem dL_law__2648 : decode cL_law_ 2648 = .ok (.lcmp, 1) := by decide +kernel
theorem dL_law__2649 : decode cL_law_ 2649 = .ok (.ifCond .eq 5, 3) := by decide +kernel
theorem dL_law__2652 : decode cL_law_ 2652 = .ok (.iconst 0, 1) := by decide +kernel
theorem dL_law__2653 : decode cL_law_ 2653 = .ok (.ireturn, 1) := by decide +kernel
theorem dL_law__2654 : decode cL_law_ 2654 = .ok (.goto 79, 3) := by decide +kernel
theorem dL_law__2657 : decode cL_law_ 2657 = .ok (.aload_n 1, 1) := by decide +kernel
theorem dL_law__2658 : decode cL_law_ 2658 = .ok (.invokevirtual 250, 3) := by decide +kernel
theorem dL_law__2661 : decode cL_law_ 2661 = .ok (.aload_n 2, 1) := by decide +kernel
theorem dL_law__2662 : decode cL_law_ 2662 = .ok (.invokevirtual 253, 3) := by decide +kernel
theorem dL_law__2665 : decode cL_law_ 2665 = .ok (.if_icmp .eq 68, 3) := by decide +kernel
theorem dL_law__2668 : decode cL_law_ 2668 = .ok (.iconst 0, 1) := by decide +kernel
theorem dL_law__2669 : decode cL_law_ 2669 = .ok (.ireturn, 1) := by decide +kernel
theorem dL_law__2670 : decode cL_law_ 2670 = .ok (.aload_n 1, 1) := by decide +kernel
theorem dL_law__2671 : decode cL_law_ 2671 = .ok (.invokevirtual 254, 3) := by decide +kernel
theorem dL_law__2674 : decode cL_law_ 2674 = .ok (.aload_n 2, 1) := by decide +kernel
theorem dL_law__2675 : decode cL_law_ 2675 = .ok (.invokevirtual 257, 3) := by decide +kernel
theorem dL_law__2678 : decode cL_law_ 2678 = .ok (.if_icmp .eq 55, 3) := by decide +kernel
theorem dL_law__2681 : decode cL_law_ 2681 = .ok (.iconst 0, 1) := by decide +kernel
theorem dL_law__2682 : decode cL_law_ 2682 = .ok (.ireturn, 1) := by decide +kernel
theorem dL_law__2683 : decode cL_law_ 2683 = .ok (.aload_n 1, 1) := by decide +kernel
theorem dL_law__2684 : decode cL_law_ 2684 = .ok (.aload_n 0, 1) := by decide +kernel
theorem dL_law__2685 : decode cL_law_ 2685 = .ok (.iload 4, 2) := by decide +kernel
theorem dL_law__2687 : decode cL_law_ 2687 = .ok (.iconst 1, 1) := by decide +kernel
theorem dL_law__2688 : decode cL_law_ 2688 = .ok (.iadd, 1) := by decide +kernel
theorem dL_law__2689 : decode cL_law_ 2689 = .ok (.iaload, 1) := by decide +kernel
theorem dL_law__2690 : decode cL_law_ 2690 = .ok (.invokevirtual 258, 3) := by decide +kernel
theorem dL_law__2693 : decode cL_law_ 2693 = .ok (.aload_n 2, 1) := by decide +kernel
theorem dL_law__2694 : decode cL_law_ 2694 = .ok (.aload_n 0, 1) := by decide +kernel
theorem dL_law__2695 : decode cL_law_ 2695 = .ok (.iload 4, 2) := by decide +kernel
theorem dL_law__2697 : decode cL_law_ 2697 = .ok (.iconst 1, 1) := by decide +kernel
theorem dL_law__2698 : decode cL_law_ 2698 = .ok (.iadd, 1) := by decide +kernel
theorem dL_law__2699 : decode cL_law_ 2699 = .ok (.iaload, 1) := by decide +kernel
theorem dL_law__2700 : decode cL_law_ 2700 = .ok (.invokevirtual 261, 3) := by decide +kernel
theorem dL_law__2703 : decode cL_law_ 2703 = .ok (.if_icmp .eq 30, 3) := by decide +kernel
theorem dL_law__2706 : decode cL_law_ 2706 = .ok (.iconst 0, 1) := by decide +kernel
theorem dL_law__2707 : decode cL_law_ 2707 = .ok (.ireturn, 1) := by decide +kernel
theorem dL_law__2708 : decode cL_law_ 2708 = .ok (.aload_n 1, 1) := by decide +kernel
theorem dL_law__2709 : decode cL_law_ 2709 = .ok (.aload_n 0, 1) := by decide +kernel
theorem dL_law__2710 : decode cL_law_ 2710 = .ok (.iload 4, 2) := by decide +kernel
theorem dL_law__2712 : decode cL_law_ 2712 = .ok (.iconst 1, 1) := by decide +kernel
theorem dL_law__2713 : decode cL_law_ 2713 = .ok (.iadd, 1) := by decide +kernel
theorem dL_law__2714 : decode cL_law_ 2714 = .ok (.iaload, 1) := by decide +kernel
theorem dL_law__2715 : decode cL_law_ 2715 = .ok (.invokevirtual 262, 3) := by decide +kernel
theorem dL_law__2718 : decode cL_law_ 2718 = .ok (.aload_n 2, 1) := by decide +kernel
theorem dL_law__2719 : decode cL_law_ 2719 = .ok (.aload_n 0, 1) := by decide +kernel
theorem dL_law__2720 : decode cL_law_ 2720 = .ok (.iload 4, 2) := by decide +kernel
theorem dL_law__2722 : decode cL_law_ 2722 = .ok (.iconst 1, 1) := by decide +kernel
theorem dL_law__2723 : decode cL_law_ 2723 = .ok (.iadd, 1) := by decide +kernel
theorem dL_law__2724 : decode cL_law_ 2724 = .ok (.iaload, 1) := by decide +kernel
theorem dL_law__2725 : decode cL_law_ 2725 = .ok (.invokevirtual 265, 3) := by decide +kernel
theorem dL_law__2728 : decode cL_law_ 2728 = .ok (.if_icmp .eq 5, 3) := by decide +kernel
theorem dL_law__2731 : decode cL_law_ 2731 = .ok (.iconst 0, 1) := by decide +kernel
theorem dL_law__2732 : decode cL_law_ 2732 = .ok (.ireturn, 1) := by decide +kernel
theorem dL_law__2733 : decode cL_law_ 2733 = .ok (.iinc 4 7, 3) := by decide +kernel
theorem dL_law__2736 : decode cL_law_ 2736 = .ok (.goto (-2713), 3) := by decide +kernel
theorem dL_law__2739 : decode cL_law_ 2739 = .ok (.iconst 1, 1) := by decide +kernel
theorem dL_law__2740 : decode cL_law_ 2740 = .ok (.ireturn, 1) := by decide +kernel
