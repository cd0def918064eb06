theorem dL_law__2427 : decode cL_law_ 2427 = .ok (.ireturn, 1) := by decide +kernel
theorem dL_law__2428 : decode cL_law_ 2428 = .ok (.goto 79, 3) := by decide +kernel
theorem dL_law__2431 : decode cL_law_ 2431 = .ok (.aload_n 1, 1) := by decide +kernel
theorem dL_law__2432 : decode cL_law_ 2432 = .ok (.invokevirtual 233, 3) := by decide +kernel
theorem dL_law__2435 : decode cL_law_ 2435 = .ok (.aload_n 2, 1) := by decide +kernel
theorem dL_law__2436 : decode cL_law_ 2436 = .ok (.invokevirtual 236, 3) := by decide +kernel
theorem dL_law__2439 : decode cL_law_ 2439 = .ok (.if_icmp .eq 68, 3) := by decide +kernel
theorem dL_law__2442 : decode cL_law_ 2442 = .ok (.iconst 0, 1) := by decide +kernel
theorem dL_law__2443 : decode cL_law_ 2443 = .ok (.ireturn, 1) := by decide +kernel
theorem dL_law__2444 : decode cL_law_ 2444 = .ok (.aload_n 1, 1) := by decide +kernel
theorem dL_law__2445 : decode cL_law_ 2445 = .ok (.invokevirtual 237, 3) := by decide +kernel
theorem dL_law__2448 : decode cL_law_ 2448 = .ok (.aload_n 2, 1) := by decide +kernel
theorem dL_law__2449 : decode cL_law_ 2449 = .ok (.invokevirtual 240, 3) := by decide +kernel
theorem dL_law__2452 : decode cL_law_ 2452 = .ok (.if_icmp .eq 55, 3) := by decide +kernel
theorem dL_law__2455 : decode cL_law_ 2455 = .ok (.iconst 0, 1) := by decide +kernel
theorem dL_law__2456 : decode cL_law_ 2456 = .ok (.ireturn, 1) := by decide +kernel
theorem dL_law__2457 : decode cL_law_ 2457 = .ok (.aload_n 1, 1) := by decide +kernel
theorem dL_law__2458 : decode cL_law_ 2458 = .ok (.aload_n 0, 1) := by decide +kernel
theorem dL_law__2459 : decode cL_law_ 2459 = .ok (.iload 4, 2) := by decide +kernel
theorem dL_law__2461 : decode cL_law_ 2461 = .ok (.iconst 1, 1) := by decide +kernel
theorem dL_law__2462 : decode cL_law_ 2462 = .ok (.iadd, 1) := by decide +kernel
theorem dL_law__2463 : decode cL_law_ 2463 = .ok (.iaload, 1) := by decide +kernel
theorem dL_law__2464 : decode cL_law_ 2464 = .ok (.invokevirtual 241, 3) := by decide +kernel
theorem dL_law__2467 : decode cL_law_ 2467 = .ok (.aload_n 2, 1) := by decide +kernel
theorem dL_law__2468 : decode cL_law_ 2468 = .ok (.aload_n 0, 1) := by decide +kernel
theorem dL_law__2469 : decode cL_law_ 2469 = .ok (.iload 4, 2) := by decide +kernel
theorem dL_law__2471 : decode cL_law_ 2471 = .ok (.iconst 1, 1) := by decide +kernel
theorem dL_law__2472 : decode cL_law_ 2472 = .ok (.iadd, 1) := by decide +kernel
theorem dL_law__2473 : decode cL_law_ 2473 = .ok (.iaload, 1) := by decide +kernel
theorem dL_law__2474 : decode cL_law_ 2474 = .ok (.invokevirtual 244, 3) := by decide +kernel
theorem dL_law__2477 : decode cL_law_ 2477 = .ok (.if_icmp .eq 30, 3) := by decide +kernel
theorem dL_law__2480 : decode cL_law_ 2480 = .ok (.iconst 0, 1) := by decide +kernel
theorem dL_law__2481 : decode cL_law_ 2481 = .ok (.ireturn, 1) := by decide +kernel
theorem dL_law__2482 : decode cL_law_ 2482 = .ok (.aload_n 1, 1) := by decide +kernel
theorem dL_law__2483 : decode cL_law_ 2483 = .ok (.aload_n 0, 1) := by decide +kernel
theorem dL_law__2484 : decode cL_law_ 2484 = .ok (.iload 4, 2) := by decide +kernel
theorem dL_law__2486 : decode cL_law_ 2486 = .ok (.iconst 1, 1) := by decide +kernel
theorem dL_law__2487 : decode cL_law_ 2487 = .ok (.iadd, 1) := by decide +kernel
theorem dL_law__2488 : decode cL_law_ 2488 = .ok (.iaload, 1) := by decide +kernel
theorem dL_law__2489 : decode cL_law_ 2489 = .ok (.invokevirtual 245, 3) := by decide +kernel
theorem dL_law__2492 : decode cL_law_ 2492 = .ok (.aload_n 2, 1) := by decide +kernel
theorem dL_law__2493 : decode cL_law_ 2493 = .ok (.aload_n 0, 1) := by decide +kernel
theorem dL_law__2494 : decode cL_law_ 2494 = .ok (.iload 4, 2) := by decide +kernel
theorem dL_law__2496 : decode cL_law_ 2496 = .ok (.iconst 1, 1) := by decide +kernel
theorem dL_law__2497 : decode cL_law_ 2497 = .ok (.iadd, 1) := by decide +kernel
theorem dL_law__2498 : decode cL_law_ 2498 = .ok (.iaload, 1) := by decide +kernel
theorem dL_law__2499 : decode cL_law_ 2499 = .ok (.invokevirtual 248, 3) := by decide +kernel
theorem dL_law__2502 : decode cL_law_ 2502 = .ok (.if_icmp .eq 5, 3) := by decide +kernel
theorem dL_law__2505 : decode cL_law_ 2505 = .ok (.iconst 0, 1) := by decide +kernel
theorem dL_law__2506 : decode cL_law_ 2506 = .ok (.ireturn, 1) := by decide +kernel
theorem dL_law__2507 : decode cL_law_ 2507 = .ok (.iinc 4 8, 3) := by decide +kernel
theorem dL_law__2510 : decode cL_law_ 2510 = .ok (.goto (-2487), 3) := by decide +kernel
theorem dL_law__2513 : decode cL_law_ 2513 = .ok (.iconst 1, 1) := by decide +kernel
theorem dL_law__2514 : decode cL_law_ 2514 = .ok (.ireturn, 1) := by decide +kernel
