/-! ===== words of methods and of calls, by their places in the tables ===== -/
def ab_mv (M : ab_M) (n : Nat) : Prop := (Cond.instanceMethod M.1 ∈ ab_T ∧ Cond.selects M.1.cls M.1 M.1 ∈ ab_T ∧ Cond.initialized M.1.cls ∈ ab_T ∧ Cond.code M.1 M.2.1 M.2.2.1 M.2.2.2.1 ∈ ab_T) ∧ M.1.cls ≠ "java/lang/invoke/MethodHandle" ∧ M.1.cls ≠ "java/lang/invoke/VarHandle" ∧ (parseMethodDescriptor M.1.desc).map (fun d => d.parameters.length) = some n
def ab_ms (M : ab_M) (n : Nat) : Prop := (Cond.static M.1 ∈ ab_T ∧ Cond.initialized M.1.cls ∈ ab_T ∧ Cond.code M.1 M.2.1 M.2.2.1 M.2.2.2.1 ∈ ab_T) ∧ M.1.cls ≠ "java/lang/invoke/MethodHandle" ∧ M.1.cls ≠ "java/lang/invoke/VarHandle" ∧ (parseMethodDescriptor M.1.desc).map (fun d => d.parameters.length) = some n
theorem ab_lv_of {own : String} {idx n : Nat} {M : ab_M} (h : Cond.methodLink own idx M.1 ∈ ab_T) (hm : ab_mv M n) : ab_lv own idx M n := by
  obtain ⟨⟨h1, h2, h3, h4⟩, h5⟩ := hm
  exact ⟨by simp only [List.all_cons, List.all_nil, Bool.and_true, Bool.and_eq_true, decide_eq_true_eq]; exact ⟨h, h1, h2, h3, h4⟩, h5⟩
theorem ab_ls_of {own : String} {idx n : Nat} {M : ab_M} (h : Cond.methodLink own idx M.1 ∈ ab_T) (hm : ab_ms M n) : ab_ls own idx M n := by
  obtain ⟨⟨h1, h3, h4⟩, h5⟩ := hm
  exact ⟨by simp only [List.all_cons, List.all_nil, Bool.and_true, Bool.and_eq_true, decide_eq_true_eq]; exact ⟨h, h1, h3, h4⟩, h5⟩
theorem mvX11_feed : ab_mv mX11_feed 5 := ⟨⟨ab_mem 378 (by decide +kernel) rfl, ab_mem 379 (by decide +kernel) rfl, ab_mem 1 (by decide +kernel) rfl, ab_mem 380 (by decide +kernel) rfl⟩, by decide +kernel, by decide +kernel, by decide +kernel⟩
theorem mvX11_append : ab_mv mX11_append 1 := ⟨⟨ab_mem 383 (by decide +kernel) rfl, ab_memS 0 (q := (yX11_append, 19)) (by decide +kernel), ab_mem 1 (by decide +kernel) rfl, ab_mem 384 (by decide +kernel) rfl⟩, by decide +kernel, by decide +kernel, by decide +kernel⟩
theorem mvX11_end : ab_mv mX11_end 1 := ⟨⟨ab_mem 386 (by decide +kernel) rfl, ab_mem 387 (by decide +kernel) rfl, ab_mem 1 (by decide +kernel) rfl, ab_mem 388 (by decide +kernel) rfl⟩, by decide +kernel, by decide +kernel, by decide +kernel⟩
theorem mvX11_fault : ab_mv mX11_fault 0 := ⟨⟨ab_mem 390 (by decide +kernel) rfl, ab_mem 391 (by decide +kernel) rfl, ab_mem 1 (by decide +kernel) rfl, ab_mem 392 (by decide +kernel) rfl⟩, by decide +kernel, by decide +kernel, by decide +kernel⟩
theorem mvX11_never : ab_mv mX11_never 0 := ⟨⟨ab_mem 394 (by decide +kernel) rfl, ab_mem 395 (by decide +kernel) rfl, ab_mem 1 (by decide +kernel) rfl, ab_mem 396 (by decide +kernel) rfl⟩, by decide +kernel, by decide +kernel, by decide +kernel⟩
theorem mvX8_reckonNeeds : ab_mv mX8_reckonNeeds 3 := ⟨⟨ab_mem 398 (by decide +kernel) rfl, ab_mem 399 (by decide +kernel) rfl, ab_mem 9 (by decide +kernel) rfl, ab_mem 400 (by decide +kernel) rfl⟩, by decide +kernel, by decide +kernel, by decide +kernel⟩
theorem mvX7_study : ab_mv mX7_study 2 := ⟨⟨ab_mem 402 (by decide +kernel) rfl, ab_mem 403 (by decide +kernel) rfl, ab_mem 8 (by decide +kernel) rfl, ab_mem 404 (by decide +kernel) rfl⟩, by decide +kernel, by decide +kernel, by decide +kernel⟩
theorem mvX7_pullOf : ab_mv mX7_pullOf 4 := ⟨⟨ab_mem 406 (by decide +kernel) rfl, ab_mem 407 (by decide +kernel) rfl, ab_mem 8 (by decide +kernel) rfl, ab_mem 408 (by decide +kernel) rfl⟩, by decide +kernel, by decide +kernel, by decide +kernel⟩
theorem mvX1_isOut : ab_mv mX1_isOut 1 := ⟨⟨ab_mem 410 (by decide +kernel) rfl, ab_mem 411 (by decide +kernel) rfl, ab_mem 5 (by decide +kernel) rfl, ab_mem 412 (by decide +kernel) rfl⟩, by decide +kernel, by decide +kernel, by decide +kernel⟩
theorem mvX1_toldOf : ab_mv mX1_toldOf 2 := ⟨⟨ab_mem 414 (by decide +kernel) rfl, ab_mem 415 (by decide +kernel) rfl, ab_mem 5 (by decide +kernel) rfl, ab_mem 416 (by decide +kernel) rfl⟩, by decide +kernel, by decide +kernel, by decide +kernel⟩
theorem mvX7_gather : ab_mv mX7_gather 3 := ⟨⟨ab_mem 419 (by decide +kernel) rfl, ab_memS 1 (q := (yX7_gather, 6)) (by decide +kernel), ab_mem 8 (by decide +kernel) rfl, ab_mem 420 (by decide +kernel) rfl⟩, by decide +kernel, by decide +kernel, by decide +kernel⟩
theorem mvX7_gatherSleeper : ab_mv mX7_gatherSleeper 2 := ⟨⟨ab_mem 423 (by decide +kernel) rfl, ab_memS 2 (q := (yX7_gatherSleeper, 6)) (by decide +kernel), ab_mem 8 (by decide +kernel) rfl, ab_mem 424 (by decide +kernel) rfl⟩, by decide +kernel, by decide +kernel, by decide +kernel⟩
theorem mvX1_isAwake : ab_mv mX1_isAwake 1 := ⟨⟨ab_mem 426 (by decide +kernel) rfl, ab_mem 427 (by decide +kernel) rfl, ab_mem 5 (by decide +kernel) rfl, ab_mem 428 (by decide +kernel) rfl⟩, by decide +kernel, by decide +kernel, by decide +kernel⟩
theorem msJ6_bitCount_0f7a4 : ab_ms mJ6_bitCount_0f7a4 1 := ⟨⟨ab_mem 430 (by decide +kernel) rfl, ab_mem 26 (by decide +kernel) rfl, ab_mem 431 (by decide +kernel) rfl⟩, by decide +kernel, by decide +kernel, by decide +kernel⟩
theorem mvX1_hasMet : ab_mv mX1_hasMet 2 := ⟨⟨ab_mem 436 (by decide +kernel) rfl, ab_mem 437 (by decide +kernel) rfl, ab_mem 5 (by decide +kernel) rfl, ab_mem 438 (by decide +kernel) rfl⟩, by decide +kernel, by decide +kernel, by decide +kernel⟩
theorem mvX1_isShared : ab_mv mX1_isShared 2 := ⟨⟨ab_mem 440 (by decide +kernel) rfl, ab_mem 441 (by decide +kernel) rfl, ab_mem 5 (by decide +kernel) rfl, ab_mem 442 (by decide +kernel) rfl⟩, by decide +kernel, by decide +kernel, by decide +kernel⟩
theorem mvX4_total : ab_mv mX4_total 2 := ⟨⟨ab_mem 445 (by decide +kernel) rfl, ab_mem 446 (by decide +kernel) rfl, ab_mem 7 (by decide +kernel) rfl, ab_mem 447 (by decide +kernel) rfl⟩, by decide +kernel, by decide +kernel, by decide +kernel⟩
theorem mvX4_holds : ab_mv mX4_holds 2 := ⟨⟨ab_mem 450 (by decide +kernel) rfl, ab_memS 3 (q := (yX4_holds, 8)) (by decide +kernel), ab_mem 7 (by decide +kernel) rfl, ab_mem 451 (by decide +kernel) rfl⟩, by decide +kernel, by decide +kernel, by decide +kernel⟩
theorem msX4_joined : ab_ms mX4_joined 3 := ⟨⟨ab_mem 453 (by decide +kernel) rfl, ab_mem 7 (by decide +kernel) rfl, ab_mem 454 (by decide +kernel) rfl⟩, by decide +kernel, by decide +kernel, by decide +kernel⟩
theorem mvX7_chanceOf : ab_mv mX7_chanceOf 3 := ⟨⟨ab_mem 456 (by decide +kernel) rfl, ab_mem 457 (by decide +kernel) rfl, ab_mem 8 (by decide +kernel) rfl, ab_mem 458 (by decide +kernel) rfl⟩, by decide +kernel, by decide +kernel, by decide +kernel⟩
theorem msJ9_min_7cf53 : ab_ms mJ9_min_7cf53 2 := ⟨⟨ab_mem 460 (by decide +kernel) rfl, ab_mem 27 (by decide +kernel) rfl, ab_mem 461 (by decide +kernel) rfl⟩, by decide +kernel, by decide +kernel, by decide +kernel⟩
theorem msJ9_max_7cf53 : ab_ms mJ9_max_7cf53 2 := ⟨⟨ab_mem 463 (by decide +kernel) rfl, ab_mem 27 (by decide +kernel) rfl, ab_mem 464 (by decide +kernel) rfl⟩, by decide +kernel, by decide +kernel, by decide +kernel⟩
theorem mvX7_needOf : ab_mv mX7_needOf 4 := ⟨⟨ab_mem 466 (by decide +kernel) rfl, ab_mem 467 (by decide +kernel) rfl, ab_mem 8 (by decide +kernel) rfl, ab_mem 468 (by decide +kernel) rfl⟩, by decide +kernel, by decide +kernel, by decide +kernel⟩
theorem mvX7_isStrongest : ab_mv mX7_isStrongest 4 := ⟨⟨ab_mem 471 (by decide +kernel) rfl, ab_memS 4 (q := (yX7_isStrongest, 6)) (by decide +kernel), ab_mem 8 (by decide +kernel) rfl, ab_mem 472 (by decide +kernel) rfl⟩, by decide +kernel, by decide +kernel, by decide +kernel⟩
theorem mvX8_isNeededByAny : ab_mv mX8_isNeededByAny 2 := ⟨⟨ab_mem 475 (by decide +kernel) rfl, ab_mem 476 (by decide +kernel) rfl, ab_mem 9 (by decide +kernel) rfl, ab_mem 477 (by decide +kernel) rfl⟩, by decide +kernel, by decide +kernel, by decide +kernel⟩
theorem mvX11_twice : ab_mv mX11_twice 0 := ⟨⟨ab_mem 479 (by decide +kernel) rfl, ab_mem 480 (by decide +kernel) rfl, ab_mem 1 (by decide +kernel) rfl, ab_mem 481 (by decide +kernel) rfl⟩, by decide +kernel, by decide +kernel, by decide +kernel⟩
theorem mvX11_vain : ab_mv mX11_vain 0 := ⟨⟨ab_mem 484 (by decide +kernel) rfl, ab_mem 485 (by decide +kernel) rfl, ab_mem 1 (by decide +kernel) rfl, ab_mem 486 (by decide +kernel) rfl⟩, by decide +kernel, by decide +kernel, by decide +kernel⟩
theorem mvX7_isGood : ab_mv mX7_isGood 1 := ⟨⟨ab_mem 488 (by decide +kernel) rfl, ab_mem 489 (by decide +kernel) rfl, ab_mem 8 (by decide +kernel) rfl, ab_mem 490 (by decide +kernel) rfl⟩, by decide +kernel, by decide +kernel, by decide +kernel⟩
theorem mvX11_gossip : ab_mv mX11_gossip 0 := ⟨⟨ab_mem 492 (by decide +kernel) rfl, ab_mem 493 (by decide +kernel) rfl, ab_mem 1 (by decide +kernel) rfl, ab_mem 494 (by decide +kernel) rfl⟩, by decide +kernel, by decide +kernel, by decide +kernel⟩
theorem mvX1_toldMarksOf : ab_mv mX1_toldMarksOf 1 := ⟨⟨ab_mem 496 (by decide +kernel) rfl, ab_mem 497 (by decide +kernel) rfl, ab_mem 5 (by decide +kernel) rfl, ab_mem 498 (by decide +kernel) rfl⟩, by decide +kernel, by decide +kernel, by decide +kernel⟩
theorem mvX11_longest : ab_mv mX11_longest 0 := ⟨⟨ab_mem 501 (by decide +kernel) rfl, ab_mem 502 (by decide +kernel) rfl, ab_mem 1 (by decide +kernel) rfl, ab_mem 503 (by decide +kernel) rfl⟩, by decide +kernel, by decide +kernel, by decide +kernel⟩
theorem mvX11_out : ab_mv mX11_out 0 := ⟨⟨ab_mem 505 (by decide +kernel) rfl, ab_mem 506 (by decide +kernel) rfl, ab_mem 1 (by decide +kernel) rfl, ab_mem 507 (by decide +kernel) rfl⟩, by decide +kernel, by decide +kernel, by decide +kernel⟩
theorem mvX11_awake : ab_mv mX11_awake 0 := ⟨⟨ab_mem 509 (by decide +kernel) rfl, ab_mem 510 (by decide +kernel) rfl, ab_mem 1 (by decide +kernel) rfl, ab_mem 511 (by decide +kernel) rfl⟩, by decide +kernel, by decide +kernel, by decide +kernel⟩
theorem mvX11_twins : ab_mv mX11_twins 0 := ⟨⟨ab_mem 513 (by decide +kernel) rfl, ab_mem 514 (by decide +kernel) rfl, ab_mem 1 (by decide +kernel) rfl, ab_mem 515 (by decide +kernel) rfl⟩, by decide +kernel, by decide +kernel, by decide +kernel⟩
theorem mvX11_sound : ab_mv mX11_sound 0 := ⟨⟨ab_mem 517 (by decide +kernel) rfl, ab_mem 518 (by decide +kernel) rfl, ab_mem 1 (by decide +kernel) rfl, ab_mem 519 (by decide +kernel) rfl⟩, by decide +kernel, by decide +kernel, by decide +kernel⟩
theorem mvX11_seed : ab_mv mX11_seed 1 := ⟨⟨ab_mem 521 (by decide +kernel) rfl, ab_mem 522 (by decide +kernel) rfl, ab_mem 1 (by decide +kernel) rfl, ab_mem 523 (by decide +kernel) rfl⟩, by decide +kernel, by decide +kernel, by decide +kernel⟩
theorem mvX11_undo : ab_mv mX11_undo 0 := ⟨⟨ab_mem 525 (by decide +kernel) rfl, ab_mem 526 (by decide +kernel) rfl, ab_mem 1 (by decide +kernel) rfl, ab_mem 527 (by decide +kernel) rfl⟩, by decide +kernel, by decide +kernel, by decide +kernel⟩
theorem mvX1_copyFrom : ab_mv mX1_copyFrom 1 := ⟨⟨ab_mem 529 (by decide +kernel) rfl, ab_mem 530 (by decide +kernel) rfl, ab_mem 5 (by decide +kernel) rfl, ab_mem 531 (by decide +kernel) rfl⟩, by decide +kernel, by decide +kernel, by decide +kernel⟩
theorem mvX11_image : ab_mv mX11_image 0 := ⟨⟨ab_mem 536 (by decide +kernel) rfl, ab_mem 537 (by decide +kernel) rfl, ab_mem 1 (by decide +kernel) rfl, ab_mem 538 (by decide +kernel) rfl⟩, by decide +kernel, by decide +kernel, by decide +kernel⟩
theorem mvX4_copyFrom : ab_mv mX4_copyFrom 1 := ⟨⟨ab_mem 540 (by decide +kernel) rfl, ab_mem 541 (by decide +kernel) rfl, ab_mem 7 (by decide +kernel) rfl, ab_mem 542 (by decide +kernel) rfl⟩, by decide +kernel, by decide +kernel, by decide +kernel⟩
theorem mvX11_back : ab_mv mX11_back 0 := ⟨⟨ab_mem 545 (by decide +kernel) rfl, ab_mem 546 (by decide +kernel) rfl, ab_mem 1 (by decide +kernel) rfl, ab_mem 547 (by decide +kernel) rfl⟩, by decide +kernel, by decide +kernel, by decide +kernel⟩
theorem mvX11_dropPast : ab_mv mX11_dropPast 0 := ⟨⟨ab_mem 550 (by decide +kernel) rfl, ab_memS 5 (q := (yX11_dropPast, 19)) (by decide +kernel), ab_mem 1 (by decide +kernel) rfl, ab_mem 551 (by decide +kernel) rfl⟩, by decide +kernel, by decide +kernel, by decide +kernel⟩
theorem mvX11_count : ab_mv mX11_count 1 := ⟨⟨ab_mem 553 (by decide +kernel) rfl, ab_mem 554 (by decide +kernel) rfl, ab_mem 1 (by decide +kernel) rfl, ab_mem 555 (by decide +kernel) rfl⟩, by decide +kernel, by decide +kernel, by decide +kernel⟩
theorem mvX1_yearsOut : ab_mv mX1_yearsOut 0 := ⟨⟨ab_mem 557 (by decide +kernel) rfl, ab_mem 558 (by decide +kernel) rfl, ab_mem 5 (by decide +kernel) rfl, ab_mem 559 (by decide +kernel) rfl⟩, by decide +kernel, by decide +kernel, by decide +kernel⟩
theorem mvX1_toldAllTogether : ab_mv mX1_toldAllTogether 0 := ⟨⟨ab_mem 562 (by decide +kernel) rfl, ab_mem 563 (by decide +kernel) rfl, ab_mem 5 (by decide +kernel) rfl, ab_mem 564 (by decide +kernel) rfl⟩, by decide +kernel, by decide +kernel, by decide +kernel⟩
theorem mvX11_fortress : ab_mv mX11_fortress 0 := ⟨⟨ab_mem 572 (by decide +kernel) rfl, ab_mem 573 (by decide +kernel) rfl, ab_mem 1 (by decide +kernel) rfl, ab_mem 574 (by decide +kernel) rfl⟩, by decide +kernel, by decide +kernel, by decide +kernel⟩
theorem mvX11_useTapeUp : ab_mv mX11_useTapeUp 0 := ⟨⟨ab_mem 577 (by decide +kernel) rfl, ab_memS 6 (q := (yX11_useTapeUp, 19)) (by decide +kernel), ab_mem 1 (by decide +kernel) rfl, ab_mem 578 (by decide +kernel) rfl⟩, by decide +kernel, by decide +kernel, by decide +kernel⟩
theorem mvX10_split : ab_mv mX10_split 2 := ⟨⟨ab_mem 580 (by decide +kernel) rfl, ab_mem 581 (by decide +kernel) rfl, ab_mem 2 (by decide +kernel) rfl, ab_mem 582 (by decide +kernel) rfl⟩, by decide +kernel, by decide +kernel, by decide +kernel⟩
theorem msX10_isDigit : ab_ms mX10_isDigit 1 := ⟨⟨ab_mem 584 (by decide +kernel) rfl, ab_mem 2 (by decide +kernel) rfl, ab_mem 585 (by decide +kernel) rfl⟩, by decide +kernel, by decide +kernel, by decide +kernel⟩
theorem msX10_numberIn : ab_ms mX10_numberIn 3 := ⟨⟨ab_mem 589 (by decide +kernel) rfl, ab_mem 2 (by decide +kernel) rfl, ab_mem 590 (by decide +kernel) rfl⟩, by decide +kernel, by decide +kernel, by decide +kernel⟩
theorem mvX10_add : ab_mv mX10_add 3 := ⟨⟨ab_mem 593 (by decide +kernel) rfl, ab_memS 7 (q := (yX10_add, 5)) (by decide +kernel), ab_mem 2 (by decide +kernel) rfl, ab_mem 594 (by decide +kernel) rfl⟩, by decide +kernel, by decide +kernel, by decide +kernel⟩
theorem msX10_isLetter : ab_ms mX10_isLetter 1 := ⟨⟨ab_mem 596 (by decide +kernel) rfl, ab_mem 2 (by decide +kernel) rfl, ab_mem 597 (by decide +kernel) rfl⟩, by decide +kernel, by decide +kernel, by decide +kernel⟩
theorem msX10_kindOf : ab_ms mX10_kindOf 4 := ⟨⟨ab_mem 601 (by decide +kernel) rfl, ab_mem 2 (by decide +kernel) rfl, ab_mem 602 (by decide +kernel) rfl⟩, by decide +kernel, by decide +kernel, by decide +kernel⟩
theorem mvX3_isSpelled : ab_mv mX3_isSpelled 3 := ⟨⟨ab_mem 606 (by decide +kernel) rfl, ab_mem 607 (by decide +kernel) rfl, ab_mem 14 (by decide +kernel) rfl, ab_mem 608 (by decide +kernel) rfl⟩, by decide +kernel, by decide +kernel, by decide +kernel⟩
theorem mvJ0_length_8abf5 : ab_mv mJ0_length_8abf5 0 := ⟨⟨ab_mem 610 (by decide +kernel) rfl, ab_mem 611 (by decide +kernel) rfl, ab_mem 15 (by decide +kernel) rfl, ab_mem 612 (by decide +kernel) rfl⟩, by decide +kernel, by decide +kernel, by decide +kernel⟩
theorem mvJ0_coder_7d493 : ab_mv mJ0_coder_7d493 0 := ⟨⟨ab_mem 614 (by decide +kernel) rfl, ab_mem 615 (by decide +kernel) rfl, ab_mem 15 (by decide +kernel) rfl, ab_mem 616 (by decide +kernel) rfl⟩, by decide +kernel, by decide +kernel, by decide +kernel⟩
theorem mvJ0_charAt_5068e : ab_mv mJ0_charAt_5068e 1 := ⟨⟨ab_mem 620 (by decide +kernel) rfl, ab_mem 621 (by decide +kernel) rfl, ab_mem 15 (by decide +kernel) rfl, ab_mem 622 (by decide +kernel) rfl⟩, by decide +kernel, by decide +kernel, by decide +kernel⟩
theorem mvJ0_isLatin1_aae02 : ab_mv mJ0_isLatin1_aae02 0 := ⟨⟨ab_mem 624 (by decide +kernel) rfl, ab_mem 625 (by decide +kernel) rfl, ab_mem 15 (by decide +kernel) rfl, ab_mem 626 (by decide +kernel) rfl⟩, by decide +kernel, by decide +kernel, by decide +kernel⟩
theorem msJ1_charAt_3b067 : ab_ms mJ1_charAt_3b067 2 := ⟨⟨ab_mem 628 (by decide +kernel) rfl, ab_mem 16 (by decide +kernel) rfl, ab_mem 629 (by decide +kernel) rfl⟩, by decide +kernel, by decide +kernel, by decide +kernel⟩
theorem msJ0_checkIndex_df160 : ab_ms mJ0_checkIndex_df160 2 := ⟨⟨ab_mem 631 (by decide +kernel) rfl, ab_mem 15 (by decide +kernel) rfl, ab_mem 632 (by decide +kernel) rfl⟩, by decide +kernel, by decide +kernel, by decide +kernel⟩
theorem msJ3_checkIndex_8e157 : ab_ms mJ3_checkIndex_8e157 3 := ⟨⟨ab_mem 636 (by decide +kernel) rfl, ab_mem 17 (by decide +kernel) rfl, ab_mem 637 (by decide +kernel) rfl⟩, by decide +kernel, by decide +kernel, by decide +kernel⟩
theorem msJ2_charAt_3b067 : ab_ms mJ2_charAt_3b067 2 := ⟨⟨ab_mem 639 (by decide +kernel) rfl, ab_mem 18 (by decide +kernel) rfl, ab_mem 640 (by decide +kernel) rfl⟩, by decide +kernel, by decide +kernel, by decide +kernel⟩
theorem msJ2_checkIndex_2214a : ab_ms mJ2_checkIndex_2214a 2 := ⟨⟨ab_mem 642 (by decide +kernel) rfl, ab_mem 18 (by decide +kernel) rfl, ab_mem 643 (by decide +kernel) rfl⟩, by decide +kernel, by decide +kernel, by decide +kernel⟩
theorem msJ2_length_9d52b : ab_ms mJ2_length_9d52b 1 := ⟨⟨ab_mem 645 (by decide +kernel) rfl, ab_mem 18 (by decide +kernel) rfl, ab_mem 646 (by decide +kernel) rfl⟩, by decide +kernel, by decide +kernel, by decide +kernel⟩
theorem msJ2_getChar_3b067 : ab_ms mJ2_getChar_3b067 2 := ⟨⟨ab_mem 649 (by decide +kernel) rfl, ab_mem 18 (by decide +kernel) rfl, ab_mem 650 (by decide +kernel) rfl⟩, by decide +kernel, by decide +kernel, by decide +kernel⟩
theorem msX10_marksIn : ab_ms mX10_marksIn 3 := ⟨⟨ab_mem 658 (by decide +kernel) rfl, ab_mem 2 (by decide +kernel) rfl, ab_mem 659 (by decide +kernel) rfl⟩, by decide +kernel, by decide +kernel, by decide +kernel⟩
theorem mvX10_isAt : ab_mv mX10_isAt 1 := ⟨⟨ab_mem 672 (by decide +kernel) rfl, ab_mem 673 (by decide +kernel) rfl, ab_mem 2 (by decide +kernel) rfl, ab_mem 674 (by decide +kernel) rfl⟩, by decide +kernel, by decide +kernel, by decide +kernel⟩
theorem mvX2_readPrisoner : ab_mv mX2_readPrisoner 1 := ⟨⟨ab_mem 686 (by decide +kernel) rfl, ab_memS 8 (q := (yX2_readPrisoner, 1)) (by decide +kernel), ab_mem 4 (by decide +kernel) rfl, ab_mem 687 (by decide +kernel) rfl⟩, by decide +kernel, by decide +kernel, by decide +kernel⟩
theorem mvX10_take : ab_mv mX10_take 1 := ⟨⟨ab_mem 689 (by decide +kernel) rfl, ab_mem 690 (by decide +kernel) rfl, ab_mem 2 (by decide +kernel) rfl, ab_mem 691 (by decide +kernel) rfl⟩, by decide +kernel, by decide +kernel, by decide +kernel⟩
theorem mvX10_takeNumber : ab_mv mX10_takeNumber 2 := ⟨⟨ab_mem 695 (by decide +kernel) rfl, ab_mem 696 (by decide +kernel) rfl, ab_mem 2 (by decide +kernel) rfl, ab_mem 697 (by decide +kernel) rfl⟩, by decide +kernel, by decide +kernel, by decide +kernel⟩
theorem mvX10_takeMarks : ab_mv mX10_takeMarks 1 := ⟨⟨ab_mem 701 (by decide +kernel) rfl, ab_mem 702 (by decide +kernel) rfl, ab_mem 2 (by decide +kernel) rfl, ab_mem 703 (by decide +kernel) rfl⟩, by decide +kernel, by decide +kernel, by decide +kernel⟩
theorem mvX2_readSleeper : ab_mv mX2_readSleeper 1 := ⟨⟨ab_mem 708 (by decide +kernel) rfl, ab_memS 9 (q := (yX2_readSleeper, 1)) (by decide +kernel), ab_mem 4 (by decide +kernel) rfl, ab_mem 709 (by decide +kernel) rfl⟩, by decide +kernel, by decide +kernel, by decide +kernel⟩
theorem mvX2_readTold : ab_mv mX2_readTold 1 := ⟨⟨ab_mem 722 (by decide +kernel) rfl, ab_memS 10 (q := (yX2_readTold, 1)) (by decide +kernel), ab_mem 4 (by decide +kernel) rfl, ab_mem 723 (by decide +kernel) rfl⟩, by decide +kernel, by decide +kernel, by decide +kernel⟩
theorem mvX1_addTold : ab_mv mX1_addTold 3 := ⟨⟨ab_mem 725 (by decide +kernel) rfl, ab_mem 726 (by decide +kernel) rfl, ab_mem 5 (by decide +kernel) rfl, ab_mem 727 (by decide +kernel) rfl⟩, by decide +kernel, by decide +kernel, by decide +kernel⟩
theorem msX5_takeLineKind : ab_ms mX5_takeLineKind 1 := ⟨⟨ab_mem 736 (by decide +kernel) rfl, ab_mem 6 (by decide +kernel) rfl, ab_mem 737 (by decide +kernel) rfl⟩, by decide +kernel, by decide +kernel, by decide +kernel⟩
theorem mvX5_readCondition : ab_mv mX5_readCondition 2 := ⟨⟨ab_mem 750 (by decide +kernel) rfl, ab_memS 11 (q := (yX5_readCondition, 1)) (by decide +kernel), ab_mem 6 (by decide +kernel) rfl, ab_mem 751 (by decide +kernel) rfl⟩, by decide +kernel, by decide +kernel, by decide +kernel⟩
theorem mvX5_readAtom : ab_mv mX5_readAtom 2 := ⟨⟨ab_mem 754 (by decide +kernel) rfl, ab_memS 12 (q := (yX5_readAtom, 1)) (by decide +kernel), ab_mem 6 (by decide +kernel) rfl, ab_mem 755 (by decide +kernel) rfl⟩, by decide +kernel, by decide +kernel, by decide +kernel⟩
theorem mvX5_readDeeper : ab_mv mX5_readDeeper 2 := ⟨⟨ab_mem 763 (by decide +kernel) rfl, ab_memS 13 (q := (yX5_readDeeper, 1)) (by decide +kernel), ab_mem 6 (by decide +kernel) rfl, ab_mem 764 (by decide +kernel) rfl⟩, by decide +kernel, by decide +kernel, by decide +kernel⟩
theorem mvX4_addStep : ab_mv mX4_addStep 1 := ⟨⟨ab_mem 766 (by decide +kernel) rfl, ab_mem 767 (by decide +kernel) rfl, ab_mem 7 (by decide +kernel) rfl, ab_mem 768 (by decide +kernel) rfl⟩, by decide +kernel, by decide +kernel, by decide +kernel⟩
theorem mvX10_takeAtomWord : ab_mv mX10_takeAtomWord 0 := ⟨⟨ab_mem 772 (by decide +kernel) rfl, ab_mem 773 (by decide +kernel) rfl, ab_mem 2 (by decide +kernel) rfl, ab_mem 774 (by decide +kernel) rfl⟩, by decide +kernel, by decide +kernel, by decide +kernel⟩
theorem mvX5_readComparison : ab_mv mX5_readComparison 1 := ⟨⟨ab_mem 777 (by decide +kernel) rfl, ab_memS 14 (q := (yX5_readComparison, 1)) (by decide +kernel), ab_mem 6 (by decide +kernel) rfl, ab_mem 778 (by decide +kernel) rfl⟩, by decide +kernel, by decide +kernel, by decide +kernel⟩
theorem mvX5_readSum : ab_mv mX5_readSum 1 := ⟨⟨ab_mem 781 (by decide +kernel) rfl, ab_memS 15 (q := (yX5_readSum, 1)) (by decide +kernel), ab_mem 6 (by decide +kernel) rfl, ab_mem 782 (by decide +kernel) rfl⟩, by decide +kernel, by decide +kernel, by decide +kernel⟩
theorem mvX10_takePart : ab_mv mX10_takePart 0 := ⟨⟨ab_mem 784 (by decide +kernel) rfl, ab_mem 785 (by decide +kernel) rfl, ab_mem 2 (by decide +kernel) rfl, ab_mem 786 (by decide +kernel) rfl⟩, by decide +kernel, by decide +kernel, by decide +kernel⟩
theorem mvX4_addLine : ab_mv mX4_addLine 3 := ⟨⟨ab_mem 798 (by decide +kernel) rfl, ab_mem 799 (by decide +kernel) rfl, ab_mem 7 (by decide +kernel) rfl, ab_mem 800 (by decide +kernel) rfl⟩, by decide +kernel, by decide +kernel, by decide +kernel⟩
theorem mvX10_begin : ab_mv mX10_begin 0 := ⟨⟨ab_mem 805 (by decide +kernel) rfl, ab_mem 806 (by decide +kernel) rfl, ab_mem 2 (by decide +kernel) rfl, ab_mem 807 (by decide +kernel) rfl⟩, by decide +kernel, by decide +kernel, by decide +kernel⟩
theorem mvX11_law : ab_mv mX11_law 0 := ⟨⟨ab_mem 898 (by decide +kernel) rfl, ab_mem 899 (by decide +kernel) rfl, ab_mem 1 (by decide +kernel) rfl, ab_mem 900 (by decide +kernel) rfl⟩, by decide +kernel, by decide +kernel, by decide +kernel⟩
theorem mvX4_clear : ab_mv mX4_clear 0 := ⟨⟨ab_mem 902 (by decide +kernel) rfl, ab_mem 903 (by decide +kernel) rfl, ab_mem 7 (by decide +kernel) rfl, ab_mem 904 (by decide +kernel) rfl⟩, by decide +kernel, by decide +kernel, by decide +kernel⟩
theorem mvX11_prisoner : ab_mv mX11_prisoner 2 := ⟨⟨ab_mem 915 (by decide +kernel) rfl, ab_mem 916 (by decide +kernel) rfl, ab_mem 1 (by decide +kernel) rfl, ab_mem 917 (by decide +kernel) rfl⟩, by decide +kernel, by decide +kernel, by decide +kernel⟩
theorem mvX11_requirePrisoner : ab_mv mX11_requirePrisoner 1 := ⟨⟨ab_mem 920 (by decide +kernel) rfl, ab_memS 17 (q := (yX11_requirePrisoner, 19)) (by decide +kernel), ab_mem 1 (by decide +kernel) rfl, ab_mem 921 (by decide +kernel) rfl⟩, by decide +kernel, by decide +kernel, by decide +kernel⟩
theorem mvX11_oddsNow : ab_mv mX11_oddsNow 1 := ⟨⟨ab_mem 940 (by decide +kernel) rfl, ab_memS 18 (q := (yX11_oddsNow, 19)) (by decide +kernel), ab_mem 1 (by decide +kernel) rfl, ab_mem 941 (by decide +kernel) rfl⟩, by decide +kernel, by decide +kernel, by decide +kernel⟩
theorem mvX7_oddsOf : ab_mv mX7_oddsOf 3 := ⟨⟨ab_mem 943 (by decide +kernel) rfl, ab_mem 944 (by decide +kernel) rfl, ab_mem 8 (by decide +kernel) rfl, ab_mem 945 (by decide +kernel) rfl⟩, by decide +kernel, by decide +kernel, by decide +kernel⟩
theorem mvX11_striking : ab_mv mX11_striking 1 := ⟨⟨ab_mem 949 (by decide +kernel) rfl, ab_memS 19 (q := (yX11_striking, 19)) (by decide +kernel), ab_mem 1 (by decide +kernel) rfl, ab_mem 950 (by decide +kernel) rfl⟩, by decide +kernel, by decide +kernel, by decide +kernel⟩
theorem mvX11_mistaken : ab_mv mX11_mistaken 1 := ⟨⟨ab_mem 954 (by decide +kernel) rfl, ab_memS 20 (q := (yX11_mistaken, 19)) (by decide +kernel), ab_mem 1 (by decide +kernel) rfl, ab_mem 955 (by decide +kernel) rfl⟩, by decide +kernel, by decide +kernel, by decide +kernel⟩
theorem mvX11_dreamersOf : ab_mv mX11_dreamersOf 1 := ⟨⟨ab_mem 958 (by decide +kernel) rfl, ab_memS 21 (q := (yX11_dreamersOf, 19)) (by decide +kernel), ab_mem 1 (by decide +kernel) rfl, ab_mem 959 (by decide +kernel) rfl⟩, by decide +kernel, by decide +kernel, by decide +kernel⟩
theorem mvX11_enemyOf : ab_mv mX11_enemyOf 1 := ⟨⟨ab_mem 962 (by decide +kernel) rfl, ab_memS 22 (q := (yX11_enemyOf, 19)) (by decide +kernel), ab_mem 1 (by decide +kernel) rfl, ab_mem 963 (by decide +kernel) rfl⟩, by decide +kernel, by decide +kernel, by decide +kernel⟩
theorem mvX11_worthOfEnemy : ab_mv mX11_worthOfEnemy 1 := ⟨⟨ab_mem 966 (by decide +kernel) rfl, ab_memS 23 (q := (yX11_worthOfEnemy, 19)) (by decide +kernel), ab_mem 1 (by decide +kernel) rfl, ab_mem 967 (by decide +kernel) rfl⟩, by decide +kernel, by decide +kernel, by decide +kernel⟩
theorem mvX11_sleeper : ab_mv mX11_sleeper 2 := ⟨⟨ab_mem 988 (by decide +kernel) rfl, ab_mem 989 (by decide +kernel) rfl, ab_mem 1 (by decide +kernel) rfl, ab_mem 990 (by decide +kernel) rfl⟩, by decide +kernel, by decide +kernel, by decide +kernel⟩
theorem mvX11_requireSleeper : ab_mv mX11_requireSleeper 1 := ⟨⟨ab_mem 993 (by decide +kernel) rfl, ab_memS 24 (q := (yX11_requireSleeper, 19)) (by decide +kernel), ab_mem 1 (by decide +kernel) rfl, ab_mem 994 (by decide +kernel) rfl⟩, by decide +kernel, by decide +kernel, by decide +kernel⟩
theorem mvX11_shareOf : ab_mv mX11_shareOf 1 := ⟨⟨ab_mem 1000 (by decide +kernel) rfl, ab_memS 25 (q := (yX11_shareOf, 19)) (by decide +kernel), ab_mem 1 (by decide +kernel) rfl, ab_mem 1001 (by decide +kernel) rfl⟩, by decide +kernel, by decide +kernel, by decide +kernel⟩
theorem mvX11_told : ab_mv mX11_told 2 := ⟨⟨ab_mem 1007 (by decide +kernel) rfl, ab_mem 1008 (by decide +kernel) rfl, ab_mem 1 (by decide +kernel) rfl, ab_mem 1009 (by decide +kernel) rfl⟩, by decide +kernel, by decide +kernel, by decide +kernel⟩
theorem mvX11_pull : ab_mv mX11_pull 2 := ⟨⟨ab_mem 1015 (by decide +kernel) rfl, ab_mem 1016 (by decide +kernel) rfl, ab_mem 1 (by decide +kernel) rfl, ab_mem 1017 (by decide +kernel) rfl⟩, by decide +kernel, by decide +kernel, by decide +kernel⟩
theorem mvX11_nights : ab_mv mX11_nights 1 := ⟨⟨ab_mem 1023 (by decide +kernel) rfl, ab_mem 1024 (by decide +kernel) rfl, ab_mem 1 (by decide +kernel) rfl, ab_mem 1025 (by decide +kernel) rfl⟩, by decide +kernel, by decide +kernel, by decide +kernel⟩
theorem mvX11_remember : ab_mv mX11_remember 0 := ⟨⟨ab_mem 1029 (by decide +kernel) rfl, ab_memS 26 (q := (yX11_remember, 19)) (by decide +kernel), ab_mem 1 (by decide +kernel) rfl, ab_mem 1030 (by decide +kernel) rfl⟩, by decide +kernel, by decide +kernel, by decide +kernel⟩
theorem mvX7_passNight : ab_mv mX7_passNight 2 := ⟨⟨ab_mem 1033 (by decide +kernel) rfl, ab_mem 1034 (by decide +kernel) rfl, ab_mem 8 (by decide +kernel) rfl, ab_mem 1035 (by decide +kernel) rfl⟩, by decide +kernel, by decide +kernel, by decide +kernel⟩
theorem mvX1_draw : ab_mv mX1_draw 0 := ⟨⟨ab_mem 1038 (by decide +kernel) rfl, ab_mem 1039 (by decide +kernel) rfl, ab_mem 5 (by decide +kernel) rfl, ab_mem 1040 (by decide +kernel) rfl⟩, by decide +kernel, by decide +kernel, by decide +kernel⟩
theorem mvX1_addLogRow : ab_mv mX1_addLogRow 3 := ⟨⟨ab_mem 1043 (by decide +kernel) rfl, ab_mem 1044 (by decide +kernel) rfl, ab_mem 5 (by decide +kernel) rfl, ab_mem 1045 (by decide +kernel) rfl⟩, by decide +kernel, by decide +kernel, by decide +kernel⟩
theorem mvX7_closeNight : ab_mv mX7_closeNight 2 := ⟨⟨ab_mem 1048 (by decide +kernel) rfl, ab_mem 1049 (by decide +kernel) rfl, ab_mem 8 (by decide +kernel) rfl, ab_mem 1050 (by decide +kernel) rfl⟩, by decide +kernel, by decide +kernel, by decide +kernel⟩
theorem mvX7_fades : ab_mv mX7_fades 4 := ⟨⟨ab_mem 1053 (by decide +kernel) rfl, ab_memS 27 (q := (yX7_fades, 6)) (by decide +kernel), ab_mem 8 (by decide +kernel) rfl, ab_mem 1054 (by decide +kernel) rfl⟩, by decide +kernel, by decide +kernel, by decide +kernel⟩
theorem mvX1_fadeLeastMark : ab_mv mX1_fadeLeastMark 2 := ⟨⟨ab_mem 1056 (by decide +kernel) rfl, ab_mem 1057 (by decide +kernel) rfl, ab_mem 5 (by decide +kernel) rfl, ab_mem 1058 (by decide +kernel) rfl⟩, by decide +kernel, by decide +kernel, by decide +kernel⟩
theorem mvX11_tell : ab_mv mX11_tell 3 := ⟨⟨ab_mem 1064 (by decide +kernel) rfl, ab_mem 1065 (by decide +kernel) rfl, ab_mem 1 (by decide +kernel) rfl, ab_mem 1066 (by decide +kernel) rfl⟩, by decide +kernel, by decide +kernel, by decide +kernel⟩
theorem msX11_requireMark : ab_ms mX11_requireMark 1 := ⟨⟨ab_mem 1068 (by decide +kernel) rfl, ab_mem 1 (by decide +kernel) rfl, ab_mem 1069 (by decide +kernel) rfl⟩, by decide +kernel, by decide +kernel, by decide +kernel⟩
theorem mvX11_cheese : ab_mv mX11_cheese 2 := ⟨⟨ab_mem 1092 (by decide +kernel) rfl, ab_mem 1093 (by decide +kernel) rfl, ab_mem 1 (by decide +kernel) rfl, ab_mem 1094 (by decide +kernel) rfl⟩, by decide +kernel, by decide +kernel, by decide +kernel⟩
theorem mvX11_meet : ab_mv mX11_meet 2 := ⟨⟨ab_mem 1100 (by decide +kernel) rfl, ab_mem 1101 (by decide +kernel) rfl, ab_mem 1 (by decide +kernel) rfl, ab_mem 1102 (by decide +kernel) rfl⟩, by decide +kernel, by decide +kernel, by decide +kernel⟩
theorem mvX11_wake : ab_mv mX11_wake 1 := ⟨⟨ab_mem 1108 (by decide +kernel) rfl, ab_mem 1109 (by decide +kernel) rfl, ab_mem 1 (by decide +kernel) rfl, ab_mem 1110 (by decide +kernel) rfl⟩, by decide +kernel, by decide +kernel, by decide +kernel⟩
theorem mvX11_strict : ab_mv mX11_strict 1 := ⟨⟨ab_mem 1115 (by decide +kernel) rfl, ab_mem 1116 (by decide +kernel) rfl, ab_mem 1 (by decide +kernel) rfl, ab_mem 1117 (by decide +kernel) rfl⟩, by decide +kernel, by decide +kernel, by decide +kernel⟩
theorem mvX11_retake : ab_mv mX11_retake 1 := ⟨⟨ab_mem 1123 (by decide +kernel) rfl, ab_mem 1124 (by decide +kernel) rfl, ab_mem 1 (by decide +kernel) rfl, ab_mem 1125 (by decide +kernel) rfl⟩, by decide +kernel, by decide +kernel, by decide +kernel⟩
theorem mvX11_forget : ab_mv mX11_forget 1 := ⟨⟨ab_mem 1131 (by decide +kernel) rfl, ab_mem 1132 (by decide +kernel) rfl, ab_mem 1 (by decide +kernel) rfl, ab_mem 1133 (by decide +kernel) rfl⟩, by decide +kernel, by decide +kernel, by decide +kernel⟩
theorem mvX1_clearTold : ab_mv mX1_clearTold 1 := ⟨⟨ab_mem 1135 (by decide +kernel) rfl, ab_mem 1136 (by decide +kernel) rfl, ab_mem 5 (by decide +kernel) rfl, ab_mem 1137 (by decide +kernel) rfl⟩, by decide +kernel, by decide +kernel, by decide +kernel⟩
theorem mvX11_within : ab_mv mX11_within 2 := ⟨⟨ab_mem 1142 (by decide +kernel) rfl, ab_mem 1143 (by decide +kernel) rfl, ab_mem 1 (by decide +kernel) rfl, ab_mem 1144 (by decide +kernel) rfl⟩, by decide +kernel, by decide +kernel, by decide +kernel⟩
theorem msX11_requireNightsAhead : ab_ms mX11_requireNightsAhead 1 := ⟨⟨ab_mem 1146 (by decide +kernel) rfl, ab_mem 1 (by decide +kernel) rfl, ab_mem 1147 (by decide +kernel) rfl⟩, by decide +kernel, by decide +kernel, by decide +kernel⟩
theorem mvX11_soon : ab_mv mX11_soon 2 := ⟨⟨ab_mem 1152 (by decide +kernel) rfl, ab_mem 1153 (by decide +kernel) rfl, ab_mem 1 (by decide +kernel) rfl, ab_mem 1154 (by decide +kernel) rfl⟩, by decide +kernel, by decide +kernel, by decide +kernel⟩
theorem mvX11_need : ab_mv mX11_need 2 := ⟨⟨ab_mem 1160 (by decide +kernel) rfl, ab_mem 1161 (by decide +kernel) rfl, ab_mem 1 (by decide +kernel) rfl, ab_mem 1162 (by decide +kernel) rfl⟩, by decide +kernel, by decide +kernel, by decide +kernel⟩
theorem mvX11_cover : ab_mv mX11_cover 2 := ⟨⟨ab_mem 1168 (by decide +kernel) rfl, ab_mem 1169 (by decide +kernel) rfl, ab_mem 1 (by decide +kernel) rfl, ab_mem 1170 (by decide +kernel) rfl⟩, by decide +kernel, by decide +kernel, by decide +kernel⟩
theorem msX11_requireSleeperNumber : ab_ms mX11_requireSleeperNumber 1 := ⟨⟨ab_mem 1172 (by decide +kernel) rfl, ab_mem 1 (by decide +kernel) rfl, ab_mem 1173 (by decide +kernel) rfl⟩, by decide +kernel, by decide +kernel, by decide +kernel⟩
theorem mvX8_cheapest : ab_mv mX8_cheapest 3 := ⟨⟨ab_mem 1176 (by decide +kernel) rfl, ab_mem 1177 (by decide +kernel) rfl, ab_mem 9 (by decide +kernel) rfl, ab_mem 1178 (by decide +kernel) rfl⟩, by decide +kernel, by decide +kernel, by decide +kernel⟩
theorem mvX8_costOf : ab_mv mX8_costOf 2 := ⟨⟨ab_mem 1181 (by decide +kernel) rfl, ab_mem 1182 (by decide +kernel) rfl, ab_mem 9 (by decide +kernel) rfl, ab_mem 1183 (by decide +kernel) rfl⟩, by decide +kernel, by decide +kernel, by decide +kernel⟩
theorem mvX11_whom : ab_mv mX11_whom 2 := ⟨⟨ab_mem 1189 (by decide +kernel) rfl, ab_mem 1190 (by decide +kernel) rfl, ab_mem 1 (by decide +kernel) rfl, ab_mem 1191 (by decide +kernel) rfl⟩, by decide +kernel, by decide +kernel, by decide +kernel⟩
theorem mvX11_outs : ab_mv mX11_outs 2 := ⟨⟨ab_mem 1196 (by decide +kernel) rfl, ab_mem 1197 (by decide +kernel) rfl, ab_mem 1 (by decide +kernel) rfl, ab_mem 1198 (by decide +kernel) rfl⟩, by decide +kernel, by decide +kernel, by decide +kernel⟩
theorem mvX8_putPrisoners : ab_mv mX8_putPrisoners 2 := ⟨⟨ab_mem 1201 (by decide +kernel) rfl, ab_mem 1202 (by decide +kernel) rfl, ab_mem 9 (by decide +kernel) rfl, ab_mem 1203 (by decide +kernel) rfl⟩, by decide +kernel, by decide +kernel, by decide +kernel⟩
theorem mvX8_place : ab_mv mX8_place 5 := ⟨⟨ab_mem 1206 (by decide +kernel) rfl, ab_memS 28 (q := (yX8_place, 5)) (by decide +kernel), ab_mem 9 (by decide +kernel) rfl, ab_mem 1207 (by decide +kernel) rfl⟩, by decide +kernel, by decide +kernel, by decide +kernel⟩
theorem msX8_yearsFrom : ab_ms mX8_yearsFrom 2 := ⟨⟨ab_mem 1210 (by decide +kernel) rfl, ab_mem 9 (by decide +kernel) rfl, ab_mem 1211 (by decide +kernel) rfl⟩, by decide +kernel, by decide +kernel, by decide +kernel⟩
theorem mvX11_sworn : ab_mv mX11_sworn 0 := ⟨⟨ab_mem 1216 (by decide +kernel) rfl, ab_mem 1217 (by decide +kernel) rfl, ab_mem 1 (by decide +kernel) rfl, ab_mem 1218 (by decide +kernel) rfl⟩, by decide +kernel, by decide +kernel, by decide +kernel⟩
theorem mvX11_takeSwornRows : ab_mv mX11_takeSwornRows 0 := ⟨⟨ab_mem 1221 (by decide +kernel) rfl, ab_memS 29 (q := (yX11_takeSwornRows, 19)) (by decide +kernel), ab_mem 1 (by decide +kernel) rfl, ab_mem 1222 (by decide +kernel) rfl⟩, by decide +kernel, by decide +kernel, by decide +kernel⟩
theorem msX11_isRowLength : ab_ms mX11_isRowLength 1 := ⟨⟨ab_mem 1224 (by decide +kernel) rfl, ab_mem 1 (by decide +kernel) rfl, ab_mem 1225 (by decide +kernel) rfl⟩, by decide +kernel, by decide +kernel, by decide +kernel⟩
theorem mvX11_fittingPrisoners : ab_mv mX11_fittingPrisoners 1 := ⟨⟨ab_mem 1229 (by decide +kernel) rfl, ab_memS 30 (q := (yX11_fittingPrisoners, 19)) (by decide +kernel), ab_mem 1 (by decide +kernel) rfl, ab_mem 1230 (by decide +kernel) rfl⟩, by decide +kernel, by decide +kernel, by decide +kernel⟩
theorem mvX11_wrongRowsFor : ab_mv mX11_wrongRowsFor 2 := ⟨⟨ab_mem 1233 (by decide +kernel) rfl, ab_memS 31 (q := (yX11_wrongRowsFor, 19)) (by decide +kernel), ab_mem 1 (by decide +kernel) rfl, ab_mem 1234 (by decide +kernel) rfl⟩, by decide +kernel, by decide +kernel, by decide +kernel⟩
theorem mvX11_likely : ab_mv mX11_likely 0 := ⟨⟨ab_mem 1239 (by decide +kernel) rfl, ab_mem 1240 (by decide +kernel) rfl, ab_mem 1 (by decide +kernel) rfl, ab_mem 1241 (by decide +kernel) rfl⟩, by decide +kernel, by decide +kernel, by decide +kernel⟩
theorem mvX11_ask : ab_mv mX11_ask 0 := ⟨⟨ab_mem 1246 (by decide +kernel) rfl, ab_mem 1247 (by decide +kernel) rfl, ab_mem 1 (by decide +kernel) rfl, ab_mem 1248 (by decide +kernel) rfl⟩, by decide +kernel, by decide +kernel, by decide +kernel⟩
theorem mvX1_havingMark : ab_mv mX1_havingMark 1 := ⟨⟨ab_mem 1250 (by decide +kernel) rfl, ab_mem 1251 (by decide +kernel) rfl, ab_mem 5 (by decide +kernel) rfl, ab_mem 1252 (by decide +kernel) rfl⟩, by decide +kernel, by decide +kernel, by decide +kernel⟩
theorem mvX11_rumour : ab_mv mX11_rumour 1 := ⟨⟨ab_mem 1258 (by decide +kernel) rfl, ab_mem 1259 (by decide +kernel) rfl, ab_mem 1 (by decide +kernel) rfl, ab_mem 1260 (by decide +kernel) rfl⟩, by decide +kernel, by decide +kernel, by decide +kernel⟩
theorem mvX11_takeRumourRows : ab_mv mX11_takeRumourRows 0 := ⟨⟨ab_mem 1263 (by decide +kernel) rfl, ab_memS 32 (q := (yX11_takeRumourRows, 19)) (by decide +kernel), ab_mem 1 (by decide +kernel) rfl, ab_mem 1264 (by decide +kernel) rfl⟩, by decide +kernel, by decide +kernel, by decide +kernel⟩
theorem mvX9_hear : ab_mv mX9_hear 6 := ⟨⟨ab_mem 1267 (by decide +kernel) rfl, ab_mem 1268 (by decide +kernel) rfl, ab_mem 11 (by decide +kernel) rfl, ab_mem 1269 (by decide +kernel) rfl⟩, by decide +kernel, by decide +kernel, by decide +kernel⟩
theorem msX9_tellAll : ab_ms mX9_tellAll 4 := ⟨⟨ab_mem 1272 (by decide +kernel) rfl, ab_mem 11 (by decide +kernel) rfl, ab_mem 1273 (by decide +kernel) rfl⟩, by decide +kernel, by decide +kernel, by decide +kernel⟩
theorem msX9_isAsDreamt : ab_ms mX9_isAsDreamt 3 := ⟨⟨ab_mem 1277 (by decide +kernel) rfl, ab_mem 11 (by decide +kernel) rfl, ab_mem 1278 (by decide +kernel) rfl⟩, by decide +kernel, by decide +kernel, by decide +kernel⟩
theorem mvX9_keep : ab_mv mX9_keep 3 := ⟨⟨ab_mem 1281 (by decide +kernel) rfl, ab_memS 33 (q := (yX9_keep, 3)) (by decide +kernel), ab_mem 11 (by decide +kernel) rfl, ab_mem 1282 (by decide +kernel) rfl⟩, by decide +kernel, by decide +kernel, by decide +kernel⟩
theorem mvX11_next : ab_mv mX11_next 0 := ⟨⟨ab_mem 1287 (by decide +kernel) rfl, ab_mem 1288 (by decide +kernel) rfl, ab_mem 1 (by decide +kernel) rfl, ab_mem 1289 (by decide +kernel) rfl⟩, by decide +kernel, by decide +kernel, by decide +kernel⟩
theorem mvX9_bestSleeper : ab_mv mX9_bestSleeper 1 := ⟨⟨ab_mem 1291 (by decide +kernel) rfl, ab_mem 1292 (by decide +kernel) rfl, ab_mem 11 (by decide +kernel) rfl, ab_mem 1293 (by decide +kernel) rfl⟩, by decide +kernel, by decide +kernel, by decide +kernel⟩
theorem mvX9_greatestPart : ab_mv mX9_greatestPart 1 := ⟨⟨ab_mem 1296 (by decide +kernel) rfl, ab_memS 34 (q := (yX9_greatestPart, 3)) (by decide +kernel), ab_mem 11 (by decide +kernel) rfl, ab_mem 1297 (by decide +kernel) rfl⟩, by decide +kernel, by decide +kernel, by decide +kernel⟩
theorem mvX11_like : ab_mv mX11_like 2 := ⟨⟨ab_mem 1303 (by decide +kernel) rfl, ab_mem 1304 (by decide +kernel) rfl, ab_mem 1 (by decide +kernel) rfl, ab_mem 1305 (by decide +kernel) rfl⟩, by decide +kernel, by decide +kernel, by decide +kernel⟩
theorem mvX11_beds : ab_mv mX11_beds 2 := ⟨⟨ab_mem 1311 (by decide +kernel) rfl, ab_mem 1312 (by decide +kernel) rfl, ab_mem 1 (by decide +kernel) rfl, ab_mem 1313 (by decide +kernel) rfl⟩, by decide +kernel, by decide +kernel, by decide +kernel⟩
theorem mvX8_shareBeds : ab_mv mX8_shareBeds 2 := ⟨⟨ab_mem 1316 (by decide +kernel) rfl, ab_mem 1317 (by decide +kernel) rfl, ab_mem 9 (by decide +kernel) rfl, ab_mem 1318 (by decide +kernel) rfl⟩, by decide +kernel, by decide +kernel, by decide +kernel⟩
theorem mvX8_firstInLine : ab_mv mX8_firstInLine 1 := ⟨⟨ab_mem 1321 (by decide +kernel) rfl, ab_memS 35 (q := (yX8_firstInLine, 5)) (by decide +kernel), ab_mem 9 (by decide +kernel) rfl, ab_mem 1322 (by decide +kernel) rfl⟩, by decide +kernel, by decide +kernel, by decide +kernel⟩
theorem mvX11_couples : ab_mv mX11_couples 1 := ⟨⟨ab_mem 1328 (by decide +kernel) rfl, ab_mem 1329 (by decide +kernel) rfl, ab_mem 1 (by decide +kernel) rfl, ab_mem 1330 (by decide +kernel) rfl⟩, by decide +kernel, by decide +kernel, by decide +kernel⟩
theorem mvX0_putTogether : ab_mv mX0_putTogether 1 := ⟨⟨ab_mem 1332 (by decide +kernel) rfl, ab_mem 1333 (by decide +kernel) rfl, ab_mem 10 (by decide +kernel) rfl, ab_mem 1334 (by decide +kernel) rfl⟩, by decide +kernel, by decide +kernel, by decide +kernel⟩
theorem mvX1_heardOf : ab_mv mX1_heardOf 1 := ⟨⟨ab_mem 1336 (by decide +kernel) rfl, ab_mem 1337 (by decide +kernel) rfl, ab_mem 5 (by decide +kernel) rfl, ab_mem 1338 (by decide +kernel) rfl⟩, by decide +kernel, by decide +kernel, by decide +kernel⟩
theorem mvX0_join : ab_mv mX0_join 3 := ⟨⟨ab_mem 1341 (by decide +kernel) rfl, ab_memS 36 (q := (yX0_join, 4)) (by decide +kernel), ab_mem 10 (by decide +kernel) rfl, ab_mem 1342 (by decide +kernel) rfl⟩, by decide +kernel, by decide +kernel, by decide +kernel⟩
theorem mvX11_friends : ab_mv mX11_friends 2 := ⟨⟨ab_mem 1349 (by decide +kernel) rfl, ab_mem 1350 (by decide +kernel) rfl, ab_mem 1 (by decide +kernel) rfl, ab_mem 1351 (by decide +kernel) rfl⟩, by decide +kernel, by decide +kernel, by decide +kernel⟩
theorem mvX11_rests : ab_mv mX11_rests 2 := ⟨⟨ab_mem 1357 (by decide +kernel) rfl, ab_mem 1358 (by decide +kernel) rfl, ab_mem 1 (by decide +kernel) rfl, ab_mem 1359 (by decide +kernel) rfl⟩, by decide +kernel, by decide +kernel, by decide +kernel⟩
theorem msX11_tellerHas : ab_ms mX11_tellerHas 4 := ⟨⟨ab_mem 1361 (by decide +kernel) rfl, ab_mem 1 (by decide +kernel) rfl, ab_mem 1362 (by decide +kernel) rfl⟩, by decide +kernel, by decide +kernel, by decide +kernel⟩
theorem msX11_enemyHas : ab_ms mX11_enemyHas 3 := ⟨⟨ab_mem 1364 (by decide +kernel) rfl, ab_mem 1 (by decide +kernel) rfl, ab_mem 1365 (by decide +kernel) rfl⟩, by decide +kernel, by decide +kernel, by decide +kernel⟩
theorem mvX11_mark : ab_mv mX11_mark 1 := ⟨⟨ab_mem 1370 (by decide +kernel) rfl, ab_mem 1371 (by decide +kernel) rfl, ab_mem 1 (by decide +kernel) rfl, ab_mem 1372 (by decide +kernel) rfl⟩, by decide +kernel, by decide +kernel, by decide +kernel⟩
theorem mvX11_ahead : ab_mv mX11_ahead 3 := ⟨⟨ab_mem 1377 (by decide +kernel) rfl, ab_mem 1378 (by decide +kernel) rfl, ab_mem 1 (by decide +kernel) rfl, ab_mem 1379 (by decide +kernel) rfl⟩, by decide +kernel, by decide +kernel, by decide +kernel⟩
theorem mvX11_trial : ab_mv mX11_trial 2 := ⟨⟨ab_mem 1385 (by decide +kernel) rfl, ab_mem 1386 (by decide +kernel) rfl, ab_mem 1 (by decide +kernel) rfl, ab_mem 1387 (by decide +kernel) rfl⟩, by decide +kernel, by decide +kernel, by decide +kernel⟩
theorem mvX11_tryNights : ab_mv mX11_tryNights 2 := ⟨⟨ab_mem 1390 (by decide +kernel) rfl, ab_memS 37 (q := (yX11_tryNights, 19)) (by decide +kernel), ab_mem 1 (by decide +kernel) rfl, ab_mem 1391 (by decide +kernel) rfl⟩, by decide +kernel, by decide +kernel, by decide +kernel⟩
theorem mvX11_span : ab_mv mX11_span 2 := ⟨⟨ab_mem 1396 (by decide +kernel) rfl, ab_mem 1397 (by decide +kernel) rfl, ab_mem 1 (by decide +kernel) rfl, ab_mem 1398 (by decide +kernel) rfl⟩, by decide +kernel, by decide +kernel, by decide +kernel⟩
theorem mvX11_led : ab_mv mX11_led 2 := ⟨⟨ab_mem 1403 (by decide +kernel) rfl, ab_mem 1404 (by decide +kernel) rfl, ab_mem 1 (by decide +kernel) rfl, ab_mem 1405 (by decide +kernel) rfl⟩, by decide +kernel, by decide +kernel, by decide +kernel⟩
theorem mvX1_logEntry : ab_mv mX1_logEntry 2 := ⟨⟨ab_mem 1407 (by decide +kernel) rfl, ab_mem 1408 (by decide +kernel) rfl, ab_mem 5 (by decide +kernel) rfl, ab_mem 1409 (by decide +kernel) rfl⟩, by decide +kernel, by decide +kernel, by decide +kernel⟩
theorem mvX11_log : ab_mv mX11_log 2 := ⟨⟨ab_mem 1414 (by decide +kernel) rfl, ab_mem 1415 (by decide +kernel) rfl, ab_mem 1 (by decide +kernel) rfl, ab_mem 1416 (by decide +kernel) rfl⟩, by decide +kernel, by decide +kernel, by decide +kernel⟩
theorem mvX12_thrown : ab_mv mX12_thrown 0 := ⟨⟨ab_mem 1419 (by decide +kernel) rfl, ab_mem 1420 (by decide +kernel) rfl, ab_mem 12 (by decide +kernel) rfl, ab_mem 1421 (by decide +kernel) rfl⟩, by decide +kernel, by decide +kernel, by decide +kernel⟩
theorem mvX12_image : ab_mv mX12_image 0 := ⟨⟨ab_mem 1506 (by decide +kernel) rfl, ab_mem 1507 (by decide +kernel) rfl, ab_mem 12 (by decide +kernel) rfl, ab_mem 1508 (by decide +kernel) rfl⟩, by decide +kernel, by decide +kernel, by decide +kernel⟩
theorem mvX12_back : ab_mv mX12_back 0 := ⟨⟨ab_mem 1510 (by decide +kernel) rfl, ab_mem 1511 (by decide +kernel) rfl, ab_mem 12 (by decide +kernel) rfl, ab_mem 1512 (by decide +kernel) rfl⟩, by decide +kernel, by decide +kernel, by decide +kernel⟩
theorem mvX12_undo : ab_mv mX12_undo 0 := ⟨⟨ab_mem 1514 (by decide +kernel) rfl, ab_mem 1515 (by decide +kernel) rfl, ab_mem 12 (by decide +kernel) rfl, ab_mem 1516 (by decide +kernel) rfl⟩, by decide +kernel, by decide +kernel, by decide +kernel⟩
theorem mvX12_feed : ab_mv mX12_feed 5 := ⟨⟨ab_mem 1518 (by decide +kernel) rfl, ab_mem 1519 (by decide +kernel) rfl, ab_mem 12 (by decide +kernel) rfl, ab_mem 1520 (by decide +kernel) rfl⟩, by decide +kernel, by decide +kernel, by decide +kernel⟩
theorem mvX12_end : ab_mv mX12_end 1 := ⟨⟨ab_mem 1522 (by decide +kernel) rfl, ab_mem 1523 (by decide +kernel) rfl, ab_mem 12 (by decide +kernel) rfl, ab_mem 1524 (by decide +kernel) rfl⟩, by decide +kernel, by decide +kernel, by decide +kernel⟩
theorem mvX12_fault : ab_mv mX12_fault 0 := ⟨⟨ab_mem 1526 (by decide +kernel) rfl, ab_mem 1527 (by decide +kernel) rfl, ab_mem 12 (by decide +kernel) rfl, ab_mem 1528 (by decide +kernel) rfl⟩, by decide +kernel, by decide +kernel, by decide +kernel⟩
theorem mvX12_fortress : ab_mv mX12_fortress 0 := ⟨⟨ab_mem 1530 (by decide +kernel) rfl, ab_mem 1531 (by decide +kernel) rfl, ab_mem 12 (by decide +kernel) rfl, ab_mem 1532 (by decide +kernel) rfl⟩, by decide +kernel, by decide +kernel, by decide +kernel⟩
theorem mvX12_readAll : ab_mv mX12_readAll 1 := ⟨⟨ab_mem 1535 (by decide +kernel) rfl, ab_memS 38 (q := (yX12_readAll, 25)) (by decide +kernel), ab_mem 12 (by decide +kernel) rfl, ab_mem 1536 (by decide +kernel) rfl⟩, by decide +kernel, by decide +kernel, by decide +kernel⟩
theorem mvX12_uses : ab_mv mX12_uses 0 := ⟨⟨ab_mem 1539 (by decide +kernel) rfl, ab_memS 39 (q := (yX12_uses, 25)) (by decide +kernel), ab_mem 12 (by decide +kernel) rfl, ab_mem 1540 (by decide +kernel) rfl⟩, by decide +kernel, by decide +kernel, by decide +kernel⟩
theorem mvX12_blanks : ab_mv mX12_blanks 0 := ⟨⟨ab_mem 1543 (by decide +kernel) rfl, ab_memS 40 (q := (yX12_blanks, 25)) (by decide +kernel), ab_mem 12 (by decide +kernel) rfl, ab_mem 1544 (by decide +kernel) rfl⟩, by decide +kernel, by decide +kernel, by decide +kernel⟩
theorem mvX12_isAt : ab_mv mX12_isAt 2 := ⟨⟨ab_mem 1547 (by decide +kernel) rfl, ab_memS 41 (q := (yX12_isAt, 25)) (by decide +kernel), ab_mem 12 (by decide +kernel) rfl, ab_mem 1548 (by decide +kernel) rfl⟩, by decide +kernel, by decide +kernel, by decide +kernel⟩
theorem mvX12_readLine : ab_mv mX12_readLine 2 := ⟨⟨ab_mem 1551 (by decide +kernel) rfl, ab_memS 42 (q := (yX12_readLine, 25)) (by decide +kernel), ab_mem 12 (by decide +kernel) rfl, ab_mem 1552 (by decide +kernel) rfl⟩, by decide +kernel, by decide +kernel, by decide +kernel⟩
theorem mvX12_letters : ab_mv mX12_letters 0 := ⟨⟨ab_mem 1555 (by decide +kernel) rfl, ab_memS 43 (q := (yX12_letters, 25)) (by decide +kernel), ab_mem 12 (by decide +kernel) rfl, ab_mem 1556 (by decide +kernel) rfl⟩, by decide +kernel, by decide +kernel, by decide +kernel⟩
theorem mvX12_readFortressLine : ab_mv mX12_readFortressLine 0 := ⟨⟨ab_mem 1559 (by decide +kernel) rfl, ab_memS 44 (q := (yX12_readFortressLine, 25)) (by decide +kernel), ab_mem 12 (by decide +kernel) rfl, ab_mem 1560 (by decide +kernel) rfl⟩, by decide +kernel, by decide +kernel, by decide +kernel⟩
theorem mvX12_isWord : ab_mv mX12_isWord 1 := ⟨⟨ab_mem 1564 (by decide +kernel) rfl, ab_memS 45 (q := (yX12_isWord, 25)) (by decide +kernel), ab_mem 12 (by decide +kernel) rfl, ab_mem 1565 (by decide +kernel) rfl⟩, by decide +kernel, by decide +kernel, by decide +kernel⟩
theorem mvX12_readPrisoner : ab_mv mX12_readPrisoner 0 := ⟨⟨ab_mem 1570 (by decide +kernel) rfl, ab_memS 46 (q := (yX12_readPrisoner, 25)) (by decide +kernel), ab_mem 12 (by decide +kernel) rfl, ab_mem 1571 (by decide +kernel) rfl⟩, by decide +kernel, by decide +kernel, by decide +kernel⟩
theorem mvX12_prisoners : ab_mv mX12_prisoners 0 := ⟨⟨ab_mem 1574 (by decide +kernel) rfl, ab_memS 47 (q := (yX12_prisoners, 25)) (by decide +kernel), ab_mem 12 (by decide +kernel) rfl, ab_mem 1575 (by decide +kernel) rfl⟩, by decide +kernel, by decide +kernel, by decide +kernel⟩
theorem mvX12_behind : ab_mv mX12_behind 3 := ⟨⟨ab_mem 1579 (by decide +kernel) rfl, ab_memS 48 (q := (yX12_behind, 25)) (by decide +kernel), ab_mem 12 (by decide +kernel) rfl, ab_mem 1580 (by decide +kernel) rfl⟩, by decide +kernel, by decide +kernel, by decide +kernel⟩
theorem mvX12_number : ab_mv mX12_number 2 := ⟨⟨ab_mem 1583 (by decide +kernel) rfl, ab_memS 49 (q := (yX12_number, 25)) (by decide +kernel), ab_mem 12 (by decide +kernel) rfl, ab_mem 1584 (by decide +kernel) rfl⟩, by decide +kernel, by decide +kernel, by decide +kernel⟩
theorem mvX12_passes : ab_mv mX12_passes 1 := ⟨⟨ab_mem 1588 (by decide +kernel) rfl, ab_memS 50 (q := (yX12_passes, 25)) (by decide +kernel), ab_mem 12 (by decide +kernel) rfl, ab_mem 1589 (by decide +kernel) rfl⟩, by decide +kernel, by decide +kernel, by decide +kernel⟩
theorem mvX12_marksTold : ab_mv mX12_marksTold 0 := ⟨⟨ab_mem 1592 (by decide +kernel) rfl, ab_memS 51 (q := (yX12_marksTold, 25)) (by decide +kernel), ab_mem 12 (by decide +kernel) rfl, ab_mem 1593 (by decide +kernel) rfl⟩, by decide +kernel, by decide +kernel, by decide +kernel⟩
theorem msX12_has : ab_ms mX12_has 2 := ⟨⟨ab_mem 1595 (by decide +kernel) rfl, ab_mem 12 (by decide +kernel) rfl, ab_mem 1596 (by decide +kernel) rfl⟩, by decide +kernel, by decide +kernel, by decide +kernel⟩
theorem msX12_prisonerAt : ab_ms mX12_prisonerAt 2 := ⟨⟨ab_mem 1598 (by decide +kernel) rfl, ab_mem 12 (by decide +kernel) rfl, ab_mem 1599 (by decide +kernel) rfl⟩, by decide +kernel, by decide +kernel, by decide +kernel⟩
theorem msX12_toldAt : ab_ms mX12_toldAt 2 := ⟨⟨ab_mem 1601 (by decide +kernel) rfl, ab_mem 12 (by decide +kernel) rfl, ab_mem 1602 (by decide +kernel) rfl⟩, by decide +kernel, by decide +kernel, by decide +kernel⟩
theorem mvX12_readSleeper : ab_mv mX12_readSleeper 0 := ⟨⟨ab_mem 1606 (by decide +kernel) rfl, ab_memS 52 (q := (yX12_readSleeper, 25)) (by decide +kernel), ab_mem 12 (by decide +kernel) rfl, ab_mem 1607 (by decide +kernel) rfl⟩, by decide +kernel, by decide +kernel, by decide +kernel⟩
theorem mvX12_sleepers : ab_mv mX12_sleepers 0 := ⟨⟨ab_mem 1610 (by decide +kernel) rfl, ab_memS 53 (q := (yX12_sleepers, 25)) (by decide +kernel), ab_mem 12 (by decide +kernel) rfl, ab_mem 1611 (by decide +kernel) rfl⟩, by decide +kernel, by decide +kernel, by decide +kernel⟩
theorem msX12_at : ab_ms mX12_at 2 := ⟨⟨ab_mem 1616 (by decide +kernel) rfl, ab_mem 12 (by decide +kernel) rfl, ab_mem 1617 (by decide +kernel) rfl⟩, by decide +kernel, by decide +kernel, by decide +kernel⟩
theorem mvX12_readTold : ab_mv mX12_readTold 0 := ⟨⟨ab_mem 1622 (by decide +kernel) rfl, ab_memS 54 (q := (yX12_readTold, 25)) (by decide +kernel), ab_mem 12 (by decide +kernel) rfl, ab_mem 1623 (by decide +kernel) rfl⟩, by decide +kernel, by decide +kernel, by decide +kernel⟩
theorem mvX12_ofPrisoner : ab_mv mX12_ofPrisoner 2 := ⟨⟨ab_mem 1626 (by decide +kernel) rfl, ab_memS 55 (q := (yX12_ofPrisoner, 25)) (by decide +kernel), ab_mem 12 (by decide +kernel) rfl, ab_mem 1627 (by decide +kernel) rfl⟩, by decide +kernel, by decide +kernel, by decide +kernel⟩
theorem mvX12_readNumber : ab_mv mX12_readNumber 3 := ⟨⟨ab_mem 1631 (by decide +kernel) rfl, ab_memS 56 (q := (yX12_readNumber, 25)) (by decide +kernel), ab_mem 12 (by decide +kernel) rfl, ab_mem 1632 (by decide +kernel) rfl⟩, by decide +kernel, by decide +kernel, by decide +kernel⟩
theorem mvX12_readLawLine : ab_mv mX12_readLawLine 1 := ⟨⟨ab_mem 1636 (by decide +kernel) rfl, ab_memS 57 (q := (yX12_readLawLine, 25)) (by decide +kernel), ab_mem 12 (by decide +kernel) rfl, ab_mem 1637 (by decide +kernel) rfl⟩, by decide +kernel, by decide +kernel, by decide +kernel⟩
theorem mvX12_readCond : ab_mv mX12_readCond 0 := ⟨⟨ab_mem 1644 (by decide +kernel) rfl, ab_memS 58 (q := (yX12_readCond, 25)) (by decide +kernel), ab_mem 12 (by decide +kernel) rfl, ab_mem 1645 (by decide +kernel) rfl⟩, by decide +kernel, by decide +kernel, by decide +kernel⟩
theorem mvX12_readAllOf : ab_mv mX12_readAllOf 0 := ⟨⟨ab_mem 1648 (by decide +kernel) rfl, ab_memS 59 (q := (yX12_readAllOf, 25)) (by decide +kernel), ab_mem 12 (by decide +kernel) rfl, ab_mem 1649 (by decide +kernel) rfl⟩, by decide +kernel, by decide +kernel, by decide +kernel⟩
theorem mvX12_readAtom : ab_mv mX12_readAtom 0 := ⟨⟨ab_mem 1652 (by decide +kernel) rfl, ab_memS 60 (q := (yX12_readAtom, 25)) (by decide +kernel), ab_mem 12 (by decide +kernel) rfl, ab_mem 1653 (by decide +kernel) rfl⟩, by decide +kernel, by decide +kernel, by decide +kernel⟩
theorem mvX12_sign : ab_mv mX12_sign 1 := ⟨⟨ab_mem 1656 (by decide +kernel) rfl, ab_memS 61 (q := (yX12_sign, 25)) (by decide +kernel), ab_mem 12 (by decide +kernel) rfl, ab_mem 1657 (by decide +kernel) rfl⟩, by decide +kernel, by decide +kernel, by decide +kernel⟩
theorem mvX12_emits : ab_mv mX12_emits 2 := ⟨⟨ab_mem 1661 (by decide +kernel) rfl, ab_memS 62 (q := (yX12_emits, 25)) (by decide +kernel), ab_mem 12 (by decide +kernel) rfl, ab_mem 1662 (by decide +kernel) rfl⟩, by decide +kernel, by decide +kernel, by decide +kernel⟩
theorem mvX12_readTag : ab_mv mX12_readTag 0 := ⟨⟨ab_mem 1665 (by decide +kernel) rfl, ab_memS 63 (q := (yX12_readTag, 25)) (by decide +kernel), ab_mem 12 (by decide +kernel) rfl, ab_mem 1666 (by decide +kernel) rfl⟩, by decide +kernel, by decide +kernel, by decide +kernel⟩
theorem mvX12_readSum : ab_mv mX12_readSum 0 := ⟨⟨ab_mem 1670 (by decide +kernel) rfl, ab_memS 64 (q := (yX12_readSum, 25)) (by decide +kernel), ab_mem 12 (by decide +kernel) rfl, ab_mem 1671 (by decide +kernel) rfl⟩, by decide +kernel, by decide +kernel, by decide +kernel⟩
theorem mvX12_readPart : ab_mv mX12_readPart 0 := ⟨⟨ab_mem 1674 (by decide +kernel) rfl, ab_memS 65 (q := (yX12_readPart, 25)) (by decide +kernel), ab_mem 12 (by decide +kernel) rfl, ab_mem 1675 (by decide +kernel) rfl⟩, by decide +kernel, by decide +kernel, by decide +kernel⟩
theorem mvX12_wordOfPart : ab_mv mX12_wordOfPart 0 := ⟨⟨ab_mem 1678 (by decide +kernel) rfl, ab_memS 66 (q := (yX12_wordOfPart, 25)) (by decide +kernel), ab_mem 12 (by decide +kernel) rfl, ab_mem 1679 (by decide +kernel) rfl⟩, by decide +kernel, by decide +kernel, by decide +kernel⟩
theorem mvX12_throwsIf : ab_mv mX12_throwsIf 2 := ⟨⟨ab_mem 1684 (by decide +kernel) rfl, ab_memS 67 (q := (yX12_throwsIf, 25)) (by decide +kernel), ab_mem 12 (by decide +kernel) rfl, ab_mem 1685 (by decide +kernel) rfl⟩, by decide +kernel, by decide +kernel, by decide +kernel⟩
theorem mvX12_law : ab_mv mX12_law 0 := ⟨⟨ab_mem 1687 (by decide +kernel) rfl, ab_mem 1688 (by decide +kernel) rfl, ab_mem 12 (by decide +kernel) rfl, ab_mem 1689 (by decide +kernel) rfl⟩, by decide +kernel, by decide +kernel, by decide +kernel⟩
theorem mvX12_nights : ab_mv mX12_nights 1 := ⟨⟨ab_mem 1691 (by decide +kernel) rfl, ab_mem 1692 (by decide +kernel) rfl, ab_mem 12 (by decide +kernel) rfl, ab_mem 1693 (by decide +kernel) rfl⟩, by decide +kernel, by decide +kernel, by decide +kernel⟩
theorem msX12_in : ab_ms mX12_in 3 := ⟨⟨ab_mem 1695 (by decide +kernel) rfl, ab_mem 12 (by decide +kernel) rfl, ab_mem 1696 (by decide +kernel) rfl⟩, by decide +kernel, by decide +kernel, by decide +kernel⟩
theorem mvX12_remembers : ab_mv mX12_remembers 0 := ⟨⟨ab_mem 1699 (by decide +kernel) rfl, ab_memS 68 (q := (yX12_remembers, 25)) (by decide +kernel), ab_mem 12 (by decide +kernel) rfl, ab_mem 1700 (by decide +kernel) rfl⟩, by decide +kernel, by decide +kernel, by decide +kernel⟩
theorem mvX12_goesOn : ab_mv mX12_goesOn 2 := ⟨⟨ab_mem 1703 (by decide +kernel) rfl, ab_memS 69 (q := (yX12_goesOn, 25)) (by decide +kernel), ab_mem 12 (by decide +kernel) rfl, ab_mem 1704 (by decide +kernel) rfl⟩, by decide +kernel, by decide +kernel, by decide +kernel⟩
theorem mvX12_oneNight : ab_mv mX12_oneNight 1 := ⟨⟨ab_mem 1707 (by decide +kernel) rfl, ab_memS 70 (q := (yX12_oneNight, 25)) (by decide +kernel), ab_mem 12 (by decide +kernel) rfl, ab_mem 1708 (by decide +kernel) rfl⟩, by decide +kernel, by decide +kernel, by decide +kernel⟩
theorem mvX12_allDream : ab_mv mX12_allDream 0 := ⟨⟨ab_mem 1711 (by decide +kernel) rfl, ab_memS 71 (q := (yX12_allDream, 25)) (by decide +kernel), ab_mem 12 (by decide +kernel) rfl, ab_mem 1712 (by decide +kernel) rfl⟩, by decide +kernel, by decide +kernel, by decide +kernel⟩
theorem mvX12_drawn : ab_mv mX12_drawn 1 := ⟨⟨ab_mem 1715 (by decide +kernel) rfl, ab_memS 72 (q := (yX12_drawn, 25)) (by decide +kernel), ab_mem 12 (by decide +kernel) rfl, ab_mem 1716 (by decide +kernel) rfl⟩, by decide +kernel, by decide +kernel, by decide +kernel⟩
theorem mvX12_chanceOf : ab_mv mX12_chanceOf 1 := ⟨⟨ab_mem 1720 (by decide +kernel) rfl, ab_memS 73 (q := (yX12_chanceOf, 25)) (by decide +kernel), ab_mem 12 (by decide +kernel) rfl, ab_mem 1721 (by decide +kernel) rfl⟩, by decide +kernel, by decide +kernel, by decide +kernel⟩
theorem mvX12_of : ab_mv mX12_of 2 := ⟨⟨ab_mem 1724 (by decide +kernel) rfl, ab_memS 74 (q := (yX12_of, 25)) (by decide +kernel), ab_mem 12 (by decide +kernel) rfl, ab_mem 1725 (by decide +kernel) rfl⟩, by decide +kernel, by decide +kernel, by decide +kernel⟩
theorem mvX12_sumOf : ab_mv mX12_sumOf 3 := ⟨⟨ab_mem 1728 (by decide +kernel) rfl, ab_memS 75 (q := (yX12_sumOf, 25)) (by decide +kernel), ab_mem 12 (by decide +kernel) rfl, ab_mem 1729 (by decide +kernel) rfl⟩, by decide +kernel, by decide +kernel, by decide +kernel⟩
theorem mvX12_holdsLine : ab_mv mX12_holdsLine 3 := ⟨⟨ab_mem 1732 (by decide +kernel) rfl, ab_memS 76 (q := (yX12_holdsLine, 25)) (by decide +kernel), ab_mem 12 (by decide +kernel) rfl, ab_mem 1733 (by decide +kernel) rfl⟩, by decide +kernel, by decide +kernel, by decide +kernel⟩
theorem mvX12_factOf : ab_mv mX12_factOf 4 := ⟨⟨ab_mem 1736 (by decide +kernel) rfl, ab_memS 77 (q := (yX12_factOf, 25)) (by decide +kernel), ab_mem 12 (by decide +kernel) rfl, ab_mem 1737 (by decide +kernel) rfl⟩, by decide +kernel, by decide +kernel, by decide +kernel⟩
theorem mvX12_toldOf : ab_mv mX12_toldOf 2 := ⟨⟨ab_mem 1742 (by decide +kernel) rfl, ab_memS 78 (q := (yX12_toldOf, 25)) (by decide +kernel), ab_mem 12 (by decide +kernel) rfl, ab_mem 1743 (by decide +kernel) rfl⟩, by decide +kernel, by decide +kernel, by decide +kernel⟩
theorem mvX12_isShared : ab_mv mX12_isShared 2 := ⟨⟨ab_mem 1746 (by decide +kernel) rfl, ab_memS 79 (q := (yX12_isShared, 25)) (by decide +kernel), ab_mem 12 (by decide +kernel) rfl, ab_mem 1747 (by decide +kernel) rfl⟩, by decide +kernel, by decide +kernel, by decide +kernel⟩
theorem mvX12_dreamOf : ab_mv mX12_dreamOf 1 := ⟨⟨ab_mem 1751 (by decide +kernel) rfl, ab_memS 80 (q := (yX12_dreamOf, 25)) (by decide +kernel), ab_mem 12 (by decide +kernel) rfl, ab_mem 1752 (by decide +kernel) rfl⟩, by decide +kernel, by decide +kernel, by decide +kernel⟩
theorem mvX12_pullOf : ab_mv mX12_pullOf 2 := ⟨⟨ab_mem 1755 (by decide +kernel) rfl, ab_memS 81 (q := (yX12_pullOf, 25)) (by decide +kernel), ab_mem 12 (by decide +kernel) rfl, ab_mem 1756 (by decide +kernel) rfl⟩, by decide +kernel, by decide +kernel, by decide +kernel⟩
theorem mvX12_isOut : ab_mv mX12_isOut 1 := ⟨⟨ab_mem 1759 (by decide +kernel) rfl, ab_memS 82 (q := (yX12_isOut, 25)) (by decide +kernel), ab_mem 12 (by decide +kernel) rfl, ab_mem 1760 (by decide +kernel) rfl⟩, by decide +kernel, by decide +kernel, by decide +kernel⟩
theorem mvX12_isGood : ab_mv mX12_isGood 2 := ⟨⟨ab_mem 1763 (by decide +kernel) rfl, ab_memS 83 (q := (yX12_isGood, 25)) (by decide +kernel), ab_mem 12 (by decide +kernel) rfl, ab_mem 1764 (by decide +kernel) rfl⟩, by decide +kernel, by decide +kernel, by decide +kernel⟩
theorem mvX12_isTold : ab_mv mX12_isTold 3 := ⟨⟨ab_mem 1767 (by decide +kernel) rfl, ab_memS 84 (q := (yX12_isTold, 25)) (by decide +kernel), ab_mem 12 (by decide +kernel) rfl, ab_mem 1768 (by decide +kernel) rfl⟩, by decide +kernel, by decide +kernel, by decide +kernel⟩
theorem mvX12_allFade : ab_mv mX12_allFade 0 := ⟨⟨ab_mem 1771 (by decide +kernel) rfl, ab_memS 85 (q := (yX12_allFade, 25)) (by decide +kernel), ab_mem 12 (by decide +kernel) rfl, ab_mem 1772 (by decide +kernel) rfl⟩, by decide +kernel, by decide +kernel, by decide +kernel⟩
theorem mvX12_fades : ab_mv mX12_fades 2 := ⟨⟨ab_mem 1775 (by decide +kernel) rfl, ab_memS 86 (q := (yX12_fades, 25)) (by decide +kernel), ab_mem 12 (by decide +kernel) rfl, ab_mem 1776 (by decide +kernel) rfl⟩, by decide +kernel, by decide +kernel, by decide +kernel⟩
theorem mvX12_prisoner : ab_mv mX12_prisoner 2 := ⟨⟨ab_mem 1778 (by decide +kernel) rfl, ab_mem 1779 (by decide +kernel) rfl, ab_mem 12 (by decide +kernel) rfl, ab_mem 1780 (by decide +kernel) rfl⟩, by decide +kernel, by decide +kernel, by decide +kernel⟩
theorem mvX12_noPrisoner : ab_mv mX12_noPrisoner 1 := ⟨⟨ab_mem 1783 (by decide +kernel) rfl, ab_memS 87 (q := (yX12_noPrisoner, 25)) (by decide +kernel), ab_mem 12 (by decide +kernel) rfl, ab_mem 1784 (by decide +kernel) rfl⟩, by decide +kernel, by decide +kernel, by decide +kernel⟩
theorem mvX12_oddsOf : ab_mv mX12_oddsOf 1 := ⟨⟨ab_mem 1787 (by decide +kernel) rfl, ab_memS 88 (q := (yX12_oddsOf, 25)) (by decide +kernel), ab_mem 12 (by decide +kernel) rfl, ab_mem 1788 (by decide +kernel) rfl⟩, by decide +kernel, by decide +kernel, by decide +kernel⟩
theorem mvX12_isGoodDream : ab_mv mX12_isGoodDream 2 := ⟨⟨ab_mem 1791 (by decide +kernel) rfl, ab_memS 89 (q := (yX12_isGoodDream, 25)) (by decide +kernel), ab_mem 12 (by decide +kernel) rfl, ab_mem 1792 (by decide +kernel) rfl⟩, by decide +kernel, by decide +kernel, by decide +kernel⟩
theorem mvX12_marksOfOthers : ab_mv mX12_marksOfOthers 1 := ⟨⟨ab_mem 1795 (by decide +kernel) rfl, ab_memS 90 (q := (yX12_marksOfOthers, 25)) (by decide +kernel), ab_mem 12 (by decide +kernel) rfl, ab_mem 1796 (by decide +kernel) rfl⟩, by decide +kernel, by decide +kernel, by decide +kernel⟩
theorem mvX12_mistakenFor : ab_mv mX12_mistakenFor 1 := ⟨⟨ab_mem 1799 (by decide +kernel) rfl, ab_memS 91 (q := (yX12_mistakenFor, 25)) (by decide +kernel), ab_mem 12 (by decide +kernel) rfl, ab_mem 1800 (by decide +kernel) rfl⟩, by decide +kernel, by decide +kernel, by decide +kernel⟩
theorem mvX12_dreamersOf : ab_mv mX12_dreamersOf 1 := ⟨⟨ab_mem 1803 (by decide +kernel) rfl, ab_memS 92 (q := (yX12_dreamersOf, 25)) (by decide +kernel), ab_mem 12 (by decide +kernel) rfl, ab_mem 1804 (by decide +kernel) rfl⟩, by decide +kernel, by decide +kernel, by decide +kernel⟩
theorem mvX12_enemyOf : ab_mv mX12_enemyOf 1 := ⟨⟨ab_mem 1807 (by decide +kernel) rfl, ab_memS 93 (q := (yX12_enemyOf, 25)) (by decide +kernel), ab_mem 12 (by decide +kernel) rfl, ab_mem 1808 (by decide +kernel) rfl⟩, by decide +kernel, by decide +kernel, by decide +kernel⟩
theorem mvX12_oddsIfAwake : ab_mv mX12_oddsIfAwake 2 := ⟨⟨ab_mem 1812 (by decide +kernel) rfl, ab_memS 94 (q := (yX12_oddsIfAwake, 25)) (by decide +kernel), ab_mem 12 (by decide +kernel) rfl, ab_mem 1813 (by decide +kernel) rfl⟩, by decide +kernel, by decide +kernel, by decide +kernel⟩
theorem mvX12_worthOf : ab_mv mX12_worthOf 1 := ⟨⟨ab_mem 1816 (by decide +kernel) rfl, ab_memS 95 (q := (yX12_worthOf, 25)) (by decide +kernel), ab_mem 12 (by decide +kernel) rfl, ab_mem 1817 (by decide +kernel) rfl⟩, by decide +kernel, by decide +kernel, by decide +kernel⟩
theorem mvX12_sleeper : ab_mv mX12_sleeper 2 := ⟨⟨ab_mem 1819 (by decide +kernel) rfl, ab_mem 1820 (by decide +kernel) rfl, ab_mem 12 (by decide +kernel) rfl, ab_mem 1821 (by decide +kernel) rfl⟩, by decide +kernel, by decide +kernel, by decide +kernel⟩
theorem mvX12_noSleeper : ab_mv mX12_noSleeper 1 := ⟨⟨ab_mem 1824 (by decide +kernel) rfl, ab_memS 96 (q := (yX12_noSleeper, 25)) (by decide +kernel), ab_mem 12 (by decide +kernel) rfl, ab_mem 1825 (by decide +kernel) rfl⟩, by decide +kernel, by decide +kernel, by decide +kernel⟩
theorem mvX12_toldAll : ab_mv mX12_toldAll 0 := ⟨⟨ab_mem 1828 (by decide +kernel) rfl, ab_memS 97 (q := (yX12_toldAll, 25)) (by decide +kernel), ab_mem 12 (by decide +kernel) rfl, ab_mem 1829 (by decide +kernel) rfl⟩, by decide +kernel, by decide +kernel, by decide +kernel⟩
theorem mvX12_toldTo : ab_mv mX12_toldTo 1 := ⟨⟨ab_mem 1832 (by decide +kernel) rfl, ab_memS 98 (q := (yX12_toldTo, 25)) (by decide +kernel), ab_mem 12 (by decide +kernel) rfl, ab_mem 1833 (by decide +kernel) rfl⟩, by decide +kernel, by decide +kernel, by decide +kernel⟩
theorem mvX12_told : ab_mv mX12_told 2 := ⟨⟨ab_mem 1835 (by decide +kernel) rfl, ab_mem 1836 (by decide +kernel) rfl, ab_mem 12 (by decide +kernel) rfl, ab_mem 1837 (by decide +kernel) rfl⟩, by decide +kernel, by decide +kernel, by decide +kernel⟩
theorem mvX12_noSuch : ab_mv mX12_noSuch 2 := ⟨⟨ab_mem 1840 (by decide +kernel) rfl, ab_memS 99 (q := (yX12_noSuch, 25)) (by decide +kernel), ab_mem 12 (by decide +kernel) rfl, ab_mem 1841 (by decide +kernel) rfl⟩, by decide +kernel, by decide +kernel, by decide +kernel⟩
theorem mvX12_pull : ab_mv mX12_pull 2 := ⟨⟨ab_mem 1843 (by decide +kernel) rfl, ab_mem 1844 (by decide +kernel) rfl, ab_mem 12 (by decide +kernel) rfl, ab_mem 1845 (by decide +kernel) rfl⟩, by decide +kernel, by decide +kernel, by decide +kernel⟩
theorem mvX12_tell : ab_mv mX12_tell 3 := ⟨⟨ab_mem 1847 (by decide +kernel) rfl, ab_mem 1848 (by decide +kernel) rfl, ab_mem 12 (by decide +kernel) rfl, ab_mem 1849 (by decide +kernel) rfl⟩, by decide +kernel, by decide +kernel, by decide +kernel⟩
theorem mvX12_cheese : ab_mv mX12_cheese 2 := ⟨⟨ab_mem 1851 (by decide +kernel) rfl, ab_mem 1852 (by decide +kernel) rfl, ab_mem 12 (by decide +kernel) rfl, ab_mem 1853 (by decide +kernel) rfl⟩, by decide +kernel, by decide +kernel, by decide +kernel⟩
theorem mvX12_isNow : ab_mv mX12_isNow 2 := ⟨⟨ab_mem 1856 (by decide +kernel) rfl, ab_memS 100 (q := (yX12_isNow, 25)) (by decide +kernel), ab_mem 12 (by decide +kernel) rfl, ab_mem 1857 (by decide +kernel) rfl⟩, by decide +kernel, by decide +kernel, by decide +kernel⟩
theorem mvX12_meet : ab_mv mX12_meet 2 := ⟨⟨ab_mem 1859 (by decide +kernel) rfl, ab_mem 1860 (by decide +kernel) rfl, ab_mem 12 (by decide +kernel) rfl, ab_mem 1861 (by decide +kernel) rfl⟩, by decide +kernel, by decide +kernel, by decide +kernel⟩
theorem mvX12_wake : ab_mv mX12_wake 1 := ⟨⟨ab_mem 1863 (by decide +kernel) rfl, ab_mem 1864 (by decide +kernel) rfl, ab_mem 12 (by decide +kernel) rfl, ab_mem 1865 (by decide +kernel) rfl⟩, by decide +kernel, by decide +kernel, by decide +kernel⟩
theorem mvX12_strict : ab_mv mX12_strict 1 := ⟨⟨ab_mem 1867 (by decide +kernel) rfl, ab_mem 1868 (by decide +kernel) rfl, ab_mem 12 (by decide +kernel) rfl, ab_mem 1869 (by decide +kernel) rfl⟩, by decide +kernel, by decide +kernel, by decide +kernel⟩
theorem mvX12_retake : ab_mv mX12_retake 1 := ⟨⟨ab_mem 1871 (by decide +kernel) rfl, ab_mem 1872 (by decide +kernel) rfl, ab_mem 12 (by decide +kernel) rfl, ab_mem 1873 (by decide +kernel) rfl⟩, by decide +kernel, by decide +kernel, by decide +kernel⟩
theorem mvX12_outOnes : ab_mv mX12_outOnes 0 := ⟨⟨ab_mem 1876 (by decide +kernel) rfl, ab_memS 101 (q := (yX12_outOnes, 25)) (by decide +kernel), ab_mem 12 (by decide +kernel) rfl, ab_mem 1877 (by decide +kernel) rfl⟩, by decide +kernel, by decide +kernel, by decide +kernel⟩
theorem mvX12_forget : ab_mv mX12_forget 1 := ⟨⟨ab_mem 1879 (by decide +kernel) rfl, ab_mem 1880 (by decide +kernel) rfl, ab_mem 12 (by decide +kernel) rfl, ab_mem 1881 (by decide +kernel) rfl⟩, by decide +kernel, by decide +kernel, by decide +kernel⟩
theorem mvX12_within : ab_mv mX12_within 2 := ⟨⟨ab_mem 1883 (by decide +kernel) rfl, ab_mem 1884 (by decide +kernel) rfl, ab_mem 12 (by decide +kernel) rfl, ab_mem 1885 (by decide +kernel) rfl⟩, by decide +kernel, by decide +kernel, by decide +kernel⟩
theorem mvX12_inNights : ab_mv mX12_inNights 2 := ⟨⟨ab_mem 1888 (by decide +kernel) rfl, ab_memS 102 (q := (yX12_inNights, 25)) (by decide +kernel), ab_mem 12 (by decide +kernel) rfl, ab_mem 1889 (by decide +kernel) rfl⟩, by decide +kernel, by decide +kernel, by decide +kernel⟩
theorem mvX12_soon : ab_mv mX12_soon 2 := ⟨⟨ab_mem 1891 (by decide +kernel) rfl, ab_mem 1892 (by decide +kernel) rfl, ab_mem 12 (by decide +kernel) rfl, ab_mem 1893 (by decide +kernel) rfl⟩, by decide +kernel, by decide +kernel, by decide +kernel⟩
theorem mvX12_need : ab_mv mX12_need 2 := ⟨⟨ab_mem 1895 (by decide +kernel) rfl, ab_mem 1896 (by decide +kernel) rfl, ab_mem 12 (by decide +kernel) rfl, ab_mem 1897 (by decide +kernel) rfl⟩, by decide +kernel, by decide +kernel, by decide +kernel⟩
theorem mvX12_needOf : ab_mv mX12_needOf 2 := ⟨⟨ab_mem 1900 (by decide +kernel) rfl, ab_memS 103 (q := (yX12_needOf, 25)) (by decide +kernel), ab_mem 12 (by decide +kernel) rfl, ab_mem 1901 (by decide +kernel) rfl⟩, by decide +kernel, by decide +kernel, by decide +kernel⟩
theorem mvX12_cover : ab_mv mX12_cover 2 := ⟨⟨ab_mem 1903 (by decide +kernel) rfl, ab_mem 1904 (by decide +kernel) rfl, ab_mem 12 (by decide +kernel) rfl, ab_mem 1905 (by decide +kernel) rfl⟩, by decide +kernel, by decide +kernel, by decide +kernel⟩
theorem mvX12_wrongCover : ab_mv mX12_wrongCover 2 := ⟨⟨ab_mem 1908 (by decide +kernel) rfl, ab_memS 104 (q := (yX12_wrongCover, 25)) (by decide +kernel), ab_mem 12 (by decide +kernel) rfl, ab_mem 1909 (by decide +kernel) rfl⟩, by decide +kernel, by decide +kernel, by decide +kernel⟩
theorem mvX12_coveredBy : ab_mv mX12_coveredBy 2 := ⟨⟨ab_mem 1912 (by decide +kernel) rfl, ab_memS 105 (q := (yX12_coveredBy, 25)) (by decide +kernel), ab_mem 12 (by decide +kernel) rfl, ab_mem 1913 (by decide +kernel) rfl⟩, by decide +kernel, by decide +kernel, by decide +kernel⟩
theorem mvX12_laysNeeds : ab_mv mX12_laysNeeds 0 := ⟨⟨ab_mem 1916 (by decide +kernel) rfl, ab_memS 106 (q := (yX12_laysNeeds, 25)) (by decide +kernel), ab_mem 12 (by decide +kernel) rfl, ab_mem 1917 (by decide +kernel) rfl⟩, by decide +kernel, by decide +kernel, by decide +kernel⟩
theorem mvX12_whom : ab_mv mX12_whom 2 := ⟨⟨ab_mem 1919 (by decide +kernel) rfl, ab_mem 1920 (by decide +kernel) rfl, ab_mem 12 (by decide +kernel) rfl, ab_mem 1921 (by decide +kernel) rfl⟩, by decide +kernel, by decide +kernel, by decide +kernel⟩
theorem mvX12_outs : ab_mv mX12_outs 2 := ⟨⟨ab_mem 1923 (by decide +kernel) rfl, ab_mem 1924 (by decide +kernel) rfl, ab_mem 12 (by decide +kernel) rfl, ab_mem 1925 (by decide +kernel) rfl⟩, by decide +kernel, by decide +kernel, by decide +kernel⟩
theorem mvX12_laysYears : ab_mv mX12_laysYears 0 := ⟨⟨ab_mem 1928 (by decide +kernel) rfl, ab_memS 107 (q := (yX12_laysYears, 25)) (by decide +kernel), ab_mem 12 (by decide +kernel) rfl, ab_mem 1929 (by decide +kernel) rfl⟩, by decide +kernel, by decide +kernel, by decide +kernel⟩
theorem msX12_yearsAt : ab_ms mX12_yearsAt 3 := ⟨⟨ab_mem 1931 (by decide +kernel) rfl, ab_mem 12 (by decide +kernel) rfl, ab_mem 1932 (by decide +kernel) rfl⟩, by decide +kernel, by decide +kernel, by decide +kernel⟩
theorem mvX12_yearsIf : ab_mv mX12_yearsIf 4 := ⟨⟨ab_mem 1935 (by decide +kernel) rfl, ab_memS 108 (q := (yX12_yearsIf, 25)) (by decide +kernel), ab_mem 12 (by decide +kernel) rfl, ab_mem 1936 (by decide +kernel) rfl⟩, by decide +kernel, by decide +kernel, by decide +kernel⟩
theorem mvX12_sworn : ab_mv mX12_sworn 0 := ⟨⟨ab_mem 1938 (by decide +kernel) rfl, ab_mem 1939 (by decide +kernel) rfl, ab_mem 12 (by decide +kernel) rfl, ab_mem 1940 (by decide +kernel) rfl⟩, by decide +kernel, by decide +kernel, by decide +kernel⟩
theorem mvX12_isSworn : ab_mv mX12_isSworn 0 := ⟨⟨ab_mem 1943 (by decide +kernel) rfl, ab_memS 109 (q := (yX12_isSworn, 25)) (by decide +kernel), ab_mem 12 (by decide +kernel) rfl, ab_mem 1944 (by decide +kernel) rfl⟩, by decide +kernel, by decide +kernel, by decide +kernel⟩
theorem mvX12_swornTo : ab_mv mX12_swornTo 0 := ⟨⟨ab_mem 1947 (by decide +kernel) rfl, ab_memS 110 (q := (yX12_swornTo, 25)) (by decide +kernel), ab_mem 12 (by decide +kernel) rfl, ab_mem 1948 (by decide +kernel) rfl⟩, by decide +kernel, by decide +kernel, by decide +kernel⟩
theorem mvX12_wrongOf : ab_mv mX12_wrongOf 1 := ⟨⟨ab_mem 1951 (by decide +kernel) rfl, ab_memS 111 (q := (yX12_wrongOf, 25)) (by decide +kernel), ab_mem 12 (by decide +kernel) rfl, ab_mem 1952 (by decide +kernel) rfl⟩, by decide +kernel, by decide +kernel, by decide +kernel⟩
theorem mvX12_likely : ab_mv mX12_likely 0 := ⟨⟨ab_mem 1954 (by decide +kernel) rfl, ab_mem 1955 (by decide +kernel) rfl, ab_mem 12 (by decide +kernel) rfl, ab_mem 1956 (by decide +kernel) rfl⟩, by decide +kernel, by decide +kernel, by decide +kernel⟩
theorem mvX12_ask : ab_mv mX12_ask 0 := ⟨⟨ab_mem 1958 (by decide +kernel) rfl, ab_mem 1959 (by decide +kernel) rfl, ab_mem 12 (by decide +kernel) rfl, ab_mem 1960 (by decide +kernel) rfl⟩, by decide +kernel, by decide +kernel, by decide +kernel⟩
theorem mvX12_havingOf : ab_mv mX12_havingOf 1 := ⟨⟨ab_mem 1963 (by decide +kernel) rfl, ab_memS 112 (q := (yX12_havingOf, 25)) (by decide +kernel), ab_mem 12 (by decide +kernel) rfl, ab_mem 1964 (by decide +kernel) rfl⟩, by decide +kernel, by decide +kernel, by decide +kernel⟩
theorem mvX12_rumour : ab_mv mX12_rumour 1 := ⟨⟨ab_mem 1966 (by decide +kernel) rfl, ab_mem 1967 (by decide +kernel) rfl, ab_mem 12 (by decide +kernel) rfl, ab_mem 1968 (by decide +kernel) rfl⟩, by decide +kernel, by decide +kernel, by decide +kernel⟩
theorem mvX12_isRumour : ab_mv mX12_isRumour 0 := ⟨⟨ab_mem 1971 (by decide +kernel) rfl, ab_memS 113 (q := (yX12_isRumour, 25)) (by decide +kernel), ab_mem 12 (by decide +kernel) rfl, ab_mem 1972 (by decide +kernel) rfl⟩, by decide +kernel, by decide +kernel, by decide +kernel⟩
theorem mvX12_laysRumours : ab_mv mX12_laysRumours 0 := ⟨⟨ab_mem 1975 (by decide +kernel) rfl, ab_memS 114 (q := (yX12_laysRumours, 25)) (by decide +kernel), ab_mem 12 (by decide +kernel) rfl, ab_mem 1976 (by decide +kernel) rfl⟩, by decide +kernel, by decide +kernel, by decide +kernel⟩
theorem mvX12_keepsAll : ab_mv mX12_keepsAll 0 := ⟨⟨ab_mem 1979 (by decide +kernel) rfl, ab_memS 115 (q := (yX12_keepsAll, 25)) (by decide +kernel), ab_mem 12 (by decide +kernel) rfl, ab_mem 1980 (by decide +kernel) rfl⟩, by decide +kernel, by decide +kernel, by decide +kernel⟩
theorem mvX12_bringsBack : ab_mv mX12_bringsBack 0 := ⟨⟨ab_mem 1983 (by decide +kernel) rfl, ab_memS 116 (q := (yX12_bringsBack, 25)) (by decide +kernel), ab_mem 12 (by decide +kernel) rfl, ab_mem 1984 (by decide +kernel) rfl⟩, by decide +kernel, by decide +kernel, by decide +kernel⟩
theorem mvX12_fitsRumour : ab_mv mX12_fitsRumour 1 := ⟨⟨ab_mem 1987 (by decide +kernel) rfl, ab_memS 117 (q := (yX12_fitsRumour, 25)) (by decide +kernel), ab_mem 12 (by decide +kernel) rfl, ab_mem 1988 (by decide +kernel) rfl⟩, by decide +kernel, by decide +kernel, by decide +kernel⟩
theorem mvX12_next : ab_mv mX12_next 0 := ⟨⟨ab_mem 1990 (by decide +kernel) rfl, ab_mem 1991 (by decide +kernel) rfl, ab_mem 12 (by decide +kernel) rfl, ab_mem 1992 (by decide +kernel) rfl⟩, by decide +kernel, by decide +kernel, by decide +kernel⟩
theorem mvX12_partBy : ab_mv mX12_partBy 1 := ⟨⟨ab_mem 1995 (by decide +kernel) rfl, ab_memS 118 (q := (yX12_partBy, 25)) (by decide +kernel), ab_mem 12 (by decide +kernel) rfl, ab_mem 1996 (by decide +kernel) rfl⟩, by decide +kernel, by decide +kernel, by decide +kernel⟩
theorem mvX12_like : ab_mv mX12_like 2 := ⟨⟨ab_mem 1998 (by decide +kernel) rfl, ab_mem 1999 (by decide +kernel) rfl, ab_mem 12 (by decide +kernel) rfl, ab_mem 2000 (by decide +kernel) rfl⟩, by decide +kernel, by decide +kernel, by decide +kernel⟩
theorem mvX12_noTwoPrisoners : ab_mv mX12_noTwoPrisoners 2 := ⟨⟨ab_mem 2003 (by decide +kernel) rfl, ab_memS 119 (q := (yX12_noTwoPrisoners, 25)) (by decide +kernel), ab_mem 12 (by decide +kernel) rfl, ab_mem 2004 (by decide +kernel) rfl⟩, by decide +kernel, by decide +kernel, by decide +kernel⟩
theorem mvX12_twice : ab_mv mX12_twice 0 := ⟨⟨ab_mem 2006 (by decide +kernel) rfl, ab_mem 2007 (by decide +kernel) rfl, ab_mem 12 (by decide +kernel) rfl, ab_mem 2008 (by decide +kernel) rfl⟩, by decide +kernel, by decide +kernel, by decide +kernel⟩
theorem mvX12_vain : ab_mv mX12_vain 0 := ⟨⟨ab_mem 2010 (by decide +kernel) rfl, ab_mem 2011 (by decide +kernel) rfl, ab_mem 12 (by decide +kernel) rfl, ab_mem 2012 (by decide +kernel) rfl⟩, by decide +kernel, by decide +kernel, by decide +kernel⟩
theorem mvX12_never : ab_mv mX12_never 0 := ⟨⟨ab_mem 2014 (by decide +kernel) rfl, ab_mem 2015 (by decide +kernel) rfl, ab_mem 12 (by decide +kernel) rfl, ab_mem 2016 (by decide +kernel) rfl⟩, by decide +kernel, by decide +kernel, by decide +kernel⟩
theorem mvX12_beds : ab_mv mX12_beds 2 := ⟨⟨ab_mem 2018 (by decide +kernel) rfl, ab_mem 2019 (by decide +kernel) rfl, ab_mem 12 (by decide +kernel) rfl, ab_mem 2020 (by decide +kernel) rfl⟩, by decide +kernel, by decide +kernel, by decide +kernel⟩
theorem mvX12_couples : ab_mv mX12_couples 1 := ⟨⟨ab_mem 2022 (by decide +kernel) rfl, ab_mem 2023 (by decide +kernel) rfl, ab_mem 12 (by decide +kernel) rfl, ab_mem 2024 (by decide +kernel) rfl⟩, by decide +kernel, by decide +kernel, by decide +kernel⟩
theorem mvX12_laysPairs : ab_mv mX12_laysPairs 0 := ⟨⟨ab_mem 2027 (by decide +kernel) rfl, ab_memS 120 (q := (yX12_laysPairs, 25)) (by decide +kernel), ab_mem 12 (by decide +kernel) rfl, ab_mem 2028 (by decide +kernel) rfl⟩, by decide +kernel, by decide +kernel, by decide +kernel⟩
theorem mvX12_pairedBy : ab_mv mX12_pairedBy 2 := ⟨⟨ab_mem 2031 (by decide +kernel) rfl, ab_memS 121 (q := (yX12_pairedBy, 25)) (by decide +kernel), ab_mem 12 (by decide +kernel) rfl, ab_mem 2032 (by decide +kernel) rfl⟩, by decide +kernel, by decide +kernel, by decide +kernel⟩
theorem msX12_firstOf : ab_ms mX12_firstOf 1 := ⟨⟨ab_mem 2034 (by decide +kernel) rfl, ab_mem 12 (by decide +kernel) rfl, ab_mem 2035 (by decide +kernel) rfl⟩, by decide +kernel, by decide +kernel, by decide +kernel⟩
theorem msJ6_numberOfTrailingZeros_0f7a4 : ab_ms mJ6_numberOfTrailingZeros_0f7a4 1 := ⟨⟨ab_mem 2037 (by decide +kernel) rfl, ab_mem 26 (by decide +kernel) rfl, ab_mem 2038 (by decide +kernel) rfl⟩, by decide +kernel, by decide +kernel, by decide +kernel⟩
theorem mvX12_bothTold : ab_mv mX12_bothTold 2 := ⟨⟨ab_mem 2042 (by decide +kernel) rfl, ab_memS 122 (q := (yX12_bothTold, 25)) (by decide +kernel), ab_mem 12 (by decide +kernel) rfl, ab_mem 2043 (by decide +kernel) rfl⟩, by decide +kernel, by decide +kernel, by decide +kernel⟩
theorem mvX12_gossip : ab_mv mX12_gossip 0 := ⟨⟨ab_mem 2045 (by decide +kernel) rfl, ab_mem 2046 (by decide +kernel) rfl, ab_mem 12 (by decide +kernel) rfl, ab_mem 2047 (by decide +kernel) rfl⟩, by decide +kernel, by decide +kernel, by decide +kernel⟩
theorem mvX12_friends : ab_mv mX12_friends 2 := ⟨⟨ab_mem 2049 (by decide +kernel) rfl, ab_mem 2050 (by decide +kernel) rfl, ab_mem 12 (by decide +kernel) rfl, ab_mem 2051 (by decide +kernel) rfl⟩, by decide +kernel, by decide +kernel, by decide +kernel⟩
theorem mvX12_rests : ab_mv mX12_rests 2 := ⟨⟨ab_mem 2053 (by decide +kernel) rfl, ab_mem 2054 (by decide +kernel) rfl, ab_mem 12 (by decide +kernel) rfl, ab_mem 2055 (by decide +kernel) rfl⟩, by decide +kernel, by decide +kernel, by decide +kernel⟩
theorem mvX12_tellerHas : ab_mv mX12_tellerHas 4 := ⟨⟨ab_mem 2058 (by decide +kernel) rfl, ab_memS 123 (q := (yX12_tellerHas, 25)) (by decide +kernel), ab_mem 12 (by decide +kernel) rfl, ab_mem 2059 (by decide +kernel) rfl⟩, by decide +kernel, by decide +kernel, by decide +kernel⟩
theorem mvX12_enemyHas : ab_mv mX12_enemyHas 3 := ⟨⟨ab_mem 2062 (by decide +kernel) rfl, ab_memS 124 (q := (yX12_enemyHas, 25)) (by decide +kernel), ab_mem 12 (by decide +kernel) rfl, ab_mem 2063 (by decide +kernel) rfl⟩, by decide +kernel, by decide +kernel, by decide +kernel⟩
theorem mvX12_longest : ab_mv mX12_longest 0 := ⟨⟨ab_mem 2065 (by decide +kernel) rfl, ab_mem 2066 (by decide +kernel) rfl, ab_mem 12 (by decide +kernel) rfl, ab_mem 2067 (by decide +kernel) rfl⟩, by decide +kernel, by decide +kernel, by decide +kernel⟩
theorem mvX12_out : ab_mv mX12_out 0 := ⟨⟨ab_mem 2069 (by decide +kernel) rfl, ab_mem 2070 (by decide +kernel) rfl, ab_mem 12 (by decide +kernel) rfl, ab_mem 2071 (by decide +kernel) rfl⟩, by decide +kernel, by decide +kernel, by decide +kernel⟩
theorem mvX12_awake : ab_mv mX12_awake 0 := ⟨⟨ab_mem 2073 (by decide +kernel) rfl, ab_mem 2074 (by decide +kernel) rfl, ab_mem 12 (by decide +kernel) rfl, ab_mem 2075 (by decide +kernel) rfl⟩, by decide +kernel, by decide +kernel, by decide +kernel⟩
theorem mvX12_twins : ab_mv mX12_twins 0 := ⟨⟨ab_mem 2077 (by decide +kernel) rfl, ab_mem 2078 (by decide +kernel) rfl, ab_mem 12 (by decide +kernel) rfl, ab_mem 2079 (by decide +kernel) rfl⟩, by decide +kernel, by decide +kernel, by decide +kernel⟩
theorem mvX12_mark : ab_mv mX12_mark 1 := ⟨⟨ab_mem 2081 (by decide +kernel) rfl, ab_mem 2082 (by decide +kernel) rfl, ab_mem 12 (by decide +kernel) rfl, ab_mem 2083 (by decide +kernel) rfl⟩, by decide +kernel, by decide +kernel, by decide +kernel⟩
theorem mvX12_sound : ab_mv mX12_sound 0 := ⟨⟨ab_mem 2085 (by decide +kernel) rfl, ab_mem 2086 (by decide +kernel) rfl, ab_mem 12 (by decide +kernel) rfl, ab_mem 2087 (by decide +kernel) rfl⟩, by decide +kernel, by decide +kernel, by decide +kernel⟩
theorem mvX12_ahead : ab_mv mX12_ahead 3 := ⟨⟨ab_mem 2089 (by decide +kernel) rfl, ab_mem 2090 (by decide +kernel) rfl, ab_mem 12 (by decide +kernel) rfl, ab_mem 2091 (by decide +kernel) rfl⟩, by decide +kernel, by decide +kernel, by decide +kernel⟩
theorem msX12_noAhead : ab_ms mX12_noAhead 1 := ⟨⟨ab_mem 2093 (by decide +kernel) rfl, ab_mem 12 (by decide +kernel) rfl, ab_mem 2094 (by decide +kernel) rfl⟩, by decide +kernel, by decide +kernel, by decide +kernel⟩
theorem mvX12_trial : ab_mv mX12_trial 2 := ⟨⟨ab_mem 2096 (by decide +kernel) rfl, ab_mem 2097 (by decide +kernel) rfl, ab_mem 12 (by decide +kernel) rfl, ab_mem 2098 (by decide +kernel) rfl⟩, by decide +kernel, by decide +kernel, by decide +kernel⟩
theorem mvX12_span : ab_mv mX12_span 2 := ⟨⟨ab_mem 2100 (by decide +kernel) rfl, ab_mem 2101 (by decide +kernel) rfl, ab_mem 12 (by decide +kernel) rfl, ab_mem 2102 (by decide +kernel) rfl⟩, by decide +kernel, by decide +kernel, by decide +kernel⟩
theorem mvX12_yearsOut : ab_mv mX12_yearsOut 0 := ⟨⟨ab_mem 2105 (by decide +kernel) rfl, ab_memS 125 (q := (yX12_yearsOut, 25)) (by decide +kernel), ab_mem 12 (by decide +kernel) rfl, ab_mem 2106 (by decide +kernel) rfl⟩, by decide +kernel, by decide +kernel, by decide +kernel⟩
theorem mvX12_led : ab_mv mX12_led 2 := ⟨⟨ab_mem 2108 (by decide +kernel) rfl, ab_mem 2109 (by decide +kernel) rfl, ab_mem 12 (by decide +kernel) rfl, ab_mem 2110 (by decide +kernel) rfl⟩, by decide +kernel, by decide +kernel, by decide +kernel⟩
theorem mvX12_ofLog : ab_mv mX12_ofLog 2 := ⟨⟨ab_mem 2113 (by decide +kernel) rfl, ab_memS 126 (q := (yX12_ofLog, 25)) (by decide +kernel), ab_mem 12 (by decide +kernel) rfl, ab_mem 2114 (by decide +kernel) rfl⟩, by decide +kernel, by decide +kernel, by decide +kernel⟩
theorem mvX12_log : ab_mv mX12_log 2 := ⟨⟨ab_mem 2116 (by decide +kernel) rfl, ab_mem 2117 (by decide +kernel) rfl, ab_mem 12 (by decide +kernel) rfl, ab_mem 2118 (by decide +kernel) rfl⟩, by decide +kernel, by decide +kernel, by decide +kernel⟩
theorem mvX12_seed : ab_mv mX12_seed 1 := ⟨⟨ab_mem 2120 (by decide +kernel) rfl, ab_mem 2121 (by decide +kernel) rfl, ab_mem 12 (by decide +kernel) rfl, ab_mem 2122 (by decide +kernel) rfl⟩, by decide +kernel, by decide +kernel, by decide +kernel⟩
theorem mvX12_count : ab_mv mX12_count 1 := ⟨⟨ab_mem 2124 (by decide +kernel) rfl, ab_mem 2125 (by decide +kernel) rfl, ab_mem 12 (by decide +kernel) rfl, ab_mem 2126 (by decide +kernel) rfl⟩, by decide +kernel, by decide +kernel, by decide +kernel⟩
theorem lX11_96 : ab_lv RX11 96 mX11_append 1 := ab_lv_of (ab_mem 381 (by decide +kernel) rfl) mvX11_append
theorem lX11_100 : ab_lv RX11 100 mX11_useTapeUp 0 := ab_lv_of (ab_mem 575 (by decide +kernel) rfl) mvX11_useTapeUp
theorem lX11_104 : ab_lv RX11 104 mX10_split 2 := ab_lv_of (ab_mem 579 (by decide +kernel) rfl) mvX10_split
theorem lX11_111 : ab_lv RX11 111 mX1_copyFrom 1 := ab_lv_of (ab_mem 528 (by decide +kernel) rfl) mvX1_copyFrom
theorem lX11_119 : ab_lv RX11 119 mX10_begin 0 := ab_lv_of (ab_mem 804 (by decide +kernel) rfl) mvX10_begin
theorem lX11_137 : ab_lv RX11 137 mX11_dropPast 0 := ab_lv_of (ab_mem 548 (by decide +kernel) rfl) mvX11_dropPast
theorem lX11_142 : ab_lv RX11 142 mX4_clear 0 := ab_lv_of (ab_mem 901 (by decide +kernel) rfl) mvX4_clear
theorem lX11_148 : ab_lv RX11 148 mX4_copyFrom 1 := ab_lv_of (ab_mem 539 (by decide +kernel) rfl) mvX4_copyFrom
theorem lX11_154 : ab_lv RX11 154 mX11_requirePrisoner 1 := ab_lv_of (ab_mem 918 (by decide +kernel) rfl) mvX11_requirePrisoner
theorem lX11_163 : ab_lv RX11 163 mX1_isOut 1 := ab_lv_of (ab_mem 473 (by decide +kernel) rfl) mvX1_isOut
theorem lX11_167 : ab_lv RX11 167 mX11_oddsNow 1 := ab_lv_of (ab_mem 938 (by decide +kernel) rfl) mvX11_oddsNow
theorem lX11_171 : ab_lv RX11 171 mX11_striking 1 := ab_lv_of (ab_mem 947 (by decide +kernel) rfl) mvX11_striking
theorem lX11_174 : ab_lv RX11 174 mX11_mistaken 1 := ab_lv_of (ab_mem 952 (by decide +kernel) rfl) mvX11_mistaken
theorem lX11_177 : ab_lv RX11 177 mX11_dreamersOf 1 := ab_lv_of (ab_mem 956 (by decide +kernel) rfl) mvX11_dreamersOf
theorem lX11_180 : ab_lv RX11 180 mX11_enemyOf 1 := ab_lv_of (ab_mem 960 (by decide +kernel) rfl) mvX11_enemyOf
theorem lX11_183 : ab_lv RX11 183 mX11_worthOfEnemy 1 := ab_lv_of (ab_mem 964 (by decide +kernel) rfl) mvX11_worthOfEnemy
theorem lX11_191 : ab_lv RX11 191 mX11_requireSleeper 1 := ab_lv_of (ab_mem 991 (by decide +kernel) rfl) mvX11_requireSleeper
theorem lX11_200 : ab_lv RX11 200 mX1_isAwake 1 := ab_lv_of (ab_mem 996 (by decide +kernel) rfl) mvX1_isAwake
theorem lX11_206 : ab_lv RX11 206 mX7_chanceOf 3 := ab_lv_of (ab_mem 997 (by decide +kernel) rfl) mvX7_chanceOf
theorem lX11_210 : ab_lv RX11 210 mX7_study 2 := ab_lv_of (ab_mem 482 (by decide +kernel) rfl) mvX7_study
theorem lX11_217 : ab_lv RX11 217 mX7_isGood 1 := ab_lv_of (ab_mem 487 (by decide +kernel) rfl) mvX7_isGood
theorem lX11_220 : ab_lv RX11 220 mX11_shareOf 1 := ab_lv_of (ab_mem 998 (by decide +kernel) rfl) mvX11_shareOf
theorem lX11_225 : ab_lv RX11 225 mX1_toldOf 2 := ab_lv_of (ab_mem 1010 (by decide +kernel) rfl) mvX1_toldOf
theorem lX11_229 : ab_lv RX11 229 mX7_pullOf 4 := ab_lv_of (ab_mem 1018 (by decide +kernel) rfl) mvX7_pullOf
theorem lX11_236 : ab_ls RX11 236 mJ6_bitCount_0f7a4 1 := ab_ls_of (ab_mem 951 (by decide +kernel) rfl) msJ6_bitCount_0f7a4
theorem lX11_244 : ab_lv RX11 244 mX7_oddsOf 3 := ab_lv_of (ab_mem 942 (by decide +kernel) rfl) mvX7_oddsOf
theorem lX11_248 : ab_lv RX11 248 mX1_toldAllTogether 0 := ab_lv_of (ab_mem 561 (by decide +kernel) rfl) mvX1_toldAllTogether
theorem lX11_251 : ab_lv RX11 251 mX1_toldMarksOf 1 := ab_lv_of (ab_mem 495 (by decide +kernel) rfl) mvX1_toldMarksOf
theorem lX11_256 : ab_lv RX11 256 mX11_remember 0 := ab_lv_of (ab_mem 1027 (by decide +kernel) rfl) mvX11_remember
theorem lX11_262 : ab_lv RX11 262 mX7_passNight 2 := ab_lv_of (ab_mem 1032 (by decide +kernel) rfl) mvX7_passNight
theorem lX11_265 : ab_ls RX11 265 mX11_requireMark 1 := ab_ls_of (ab_mem 1067 (by decide +kernel) rfl) msX11_requireMark
theorem lX11_273 : ab_lv RX11 273 mX1_addTold 3 := ab_lv_of (ab_mem 1087 (by decide +kernel) rfl) mvX1_addTold
theorem lX11_279 : ab_ls RX11 279 mJ9_min_7cf53 2 := ab_ls_of (ab_mem 1031 (by decide +kernel) rfl) msJ9_min_7cf53
theorem lX11_284 : ab_lv RX11 284 mX1_hasMet 2 := ab_lv_of (ab_mem 1103 (by decide +kernel) rfl) mvX1_hasMet
theorem lX11_298 : ab_lv RX11 298 mX1_clearTold 1 := ab_lv_of (ab_mem 1134 (by decide +kernel) rfl) mvX1_clearTold
theorem lX11_301 : ab_ls RX11 301 mX11_requireNightsAhead 1 := ab_ls_of (ab_mem 1145 (by decide +kernel) rfl) msX11_requireNightsAhead
theorem lX11_306 : ab_lv RX11 306 mX7_needOf 4 := ab_lv_of (ab_mem 1163 (by decide +kernel) rfl) mvX7_needOf
theorem lX11_309 : ab_ls RX11 309 mX11_requireSleeperNumber 1 := ab_ls_of (ab_mem 1171 (by decide +kernel) rfl) msX11_requireSleeperNumber
theorem lX11_312 : ab_lv RX11 312 mX8_reckonNeeds 3 := ab_lv_of (ab_mem 397 (by decide +kernel) rfl) mvX8_reckonNeeds
theorem lX11_316 : ab_lv RX11 316 mX8_cheapest 3 := ab_lv_of (ab_mem 1175 (by decide +kernel) rfl) mvX8_cheapest
theorem lX11_319 : ab_lv RX11 319 mX8_costOf 2 := ab_lv_of (ab_mem 1184 (by decide +kernel) rfl) mvX8_costOf
theorem lX11_324 : ab_lv RX11 324 mX8_putPrisoners 2 := ab_lv_of (ab_mem 1200 (by decide +kernel) rfl) mvX8_putPrisoners
theorem lX11_336 : ab_lv RX11 336 mX8_shareBeds 2 := ab_lv_of (ab_mem 1315 (by decide +kernel) rfl) mvX8_shareBeds
theorem lX11_342 : ab_lv RX11 342 mX8_isNeededByAny 2 := ab_lv_of (ab_mem 474 (by decide +kernel) rfl) mvX8_isNeededByAny
theorem lX11_346 : ab_lv RX11 346 mX11_takeSwornRows 0 := ab_lv_of (ab_mem 1219 (by decide +kernel) rfl) mvX11_takeSwornRows
theorem lX11_349 : ab_lv RX11 349 mX11_fittingPrisoners 1 := ab_lv_of (ab_mem 1227 (by decide +kernel) rfl) mvX11_fittingPrisoners
theorem lX11_352 : ab_lv RX11 352 mX11_wrongRowsFor 2 := ab_lv_of (ab_mem 1231 (by decide +kernel) rfl) mvX11_wrongRowsFor
theorem lX11_355 : ab_lv RX11 355 mX1_havingMark 1 := ab_lv_of (ab_mem 1249 (by decide +kernel) rfl) mvX1_havingMark
theorem lX11_358 : ab_ls RX11 358 mJ9_max_7cf53 2 := ab_ls_of (ab_mem 1253 (by decide +kernel) rfl) msJ9_max_7cf53
theorem lX11_361 : ab_lv RX11 361 mX11_takeRumourRows 0 := ab_lv_of (ab_mem 1261 (by decide +kernel) rfl) mvX11_takeRumourRows
theorem lX11_364 : ab_lv RX11 364 mX9_hear 6 := ab_lv_of (ab_mem 1266 (by decide +kernel) rfl) mvX9_hear
theorem lX11_374 : ab_lv RX11 374 mX9_bestSleeper 1 := ab_lv_of (ab_mem 1290 (by decide +kernel) rfl) mvX9_bestSleeper
theorem lX11_378 : ab_ls RX11 378 mX11_isRowLength 1 := ab_ls_of (ab_mem 1223 (by decide +kernel) rfl) msX11_isRowLength
theorem lX11_387 : ab_lv RX11 387 mX0_putTogether 1 := ab_lv_of (ab_mem 1331 (by decide +kernel) rfl) mvX0_putTogether
theorem lX11_401 : ab_ls RX11 401 mX11_tellerHas 4 := ab_ls_of (ab_mem 1360 (by decide +kernel) rfl) msX11_tellerHas
theorem lX11_405 : ab_ls RX11 405 mX11_enemyHas 3 := ab_ls_of (ab_mem 1363 (by decide +kernel) rfl) msX11_enemyHas
theorem lX11_409 : ab_lv RX11 409 mX7_closeNight 2 := ab_lv_of (ab_mem 1380 (by decide +kernel) rfl) mvX7_closeNight
theorem lX11_415 : ab_lv RX11 415 mX11_tryNights 2 := ab_lv_of (ab_mem 1388 (by decide +kernel) rfl) mvX11_tryNights
theorem lX11_422 : ab_lv RX11 422 mX1_yearsOut 0 := ab_lv_of (ab_mem 556 (by decide +kernel) rfl) mvX1_yearsOut
theorem lX11_428 : ab_lv RX11 428 mX1_logEntry 2 := ab_lv_of (ab_mem 1406 (by decide +kernel) rfl) mvX1_logEntry
theorem lX0_30 : ab_lv RX0 30 mX1_heardOf 1 := ab_lv_of (ab_mem 1335 (by decide +kernel) rfl) mvX1_heardOf
theorem lX0_34 : ab_lv RX0 34 mX0_join 3 := ab_lv_of (ab_mem 1339 (by decide +kernel) rfl) mvX0_join
theorem lX0_44 : ab_ls RX0 44 mJ6_bitCount_0f7a4 1 := ab_ls_of (ab_mem 1344 (by decide +kernel) rfl) msJ6_bitCount_0f7a4
theorem lX1_70 : ab_lv RX1 70 mX1_toldOf 2 := ab_lv_of (ab_mem 443 (by decide +kernel) rfl) mvX1_toldOf
theorem lX1_74 : ab_ls RX1 74 mJ6_bitCount_0f7a4 1 := ab_ls_of (ab_mem 499 (by decide +kernel) rfl) msJ6_bitCount_0f7a4
theorem lX1_80 : ab_lv RX1 80 mX1_toldMarksOf 1 := ab_lv_of (ab_mem 565 (by decide +kernel) rfl) mvX1_toldMarksOf
theorem lX1_83 : ab_lv RX1 83 mX1_isOut 1 := ab_lv_of (ab_mem 560 (by decide +kernel) rfl) mvX1_isOut
theorem lX1_88 : ab_ls RX1 88 mJ9_min_7cf53 2 := ab_ls_of (ab_mem 1046 (by decide +kernel) rfl) msJ9_min_7cf53
theorem lX2_24 : ab_lv RX2 24 mX10_isAt 1 := ab_lv_of (ab_mem 683 (by decide +kernel) rfl) mvX10_isAt
theorem lX2_34 : ab_lv RX2 34 mX2_readPrisoner 1 := ab_lv_of (ab_mem 684 (by decide +kernel) rfl) mvX2_readPrisoner
theorem lX2_44 : ab_lv RX2 44 mX2_readSleeper 1 := ab_lv_of (ab_mem 706 (by decide +kernel) rfl) mvX2_readSleeper
theorem lX2_50 : ab_lv RX2 50 mX10_take 1 := ab_lv_of (ab_mem 688 (by decide +kernel) rfl) mvX10_take
theorem lX2_53 : ab_lv RX2 53 mX2_readTold 1 := ab_lv_of (ab_mem 720 (by decide +kernel) rfl) mvX2_readTold
theorem lX2_59 : ab_lv RX2 59 mX10_takeNumber 2 := ab_lv_of (ab_mem 694 (by decide +kernel) rfl) mvX10_takeNumber
theorem lX2_78 : ab_lv RX2 78 mX10_takeMarks 1 := ab_lv_of (ab_mem 700 (by decide +kernel) rfl) mvX10_takeMarks
theorem lX2_113 : ab_lv RX2 113 mX1_addTold 3 := ab_lv_of (ab_mem 724 (by decide +kernel) rfl) mvX1_addTold
theorem lX3_120 : ab_lv RX3 120 mJ0_length_8abf5 0 := ab_lv_of (ab_mem 609 (by decide +kernel) rfl) mvJ0_length_8abf5
theorem lX3_126 : ab_lv RX3 126 mJ0_charAt_5068e 1 := ab_lv_of (ab_mem 619 (by decide +kernel) rfl) mvJ0_charAt_5068e
theorem lX4_43 : ab_lv RX4 43 mX4_holds 2 := ab_lv_of (ab_mem 448 (by decide +kernel) rfl) mvX4_holds
theorem lX4_47 : ab_ls RX4 47 mX4_joined 3 := ab_ls_of (ab_mem 452 (by decide +kernel) rfl) msX4_joined
theorem lX5_18 : ab_ls RX5 18 mX5_takeLineKind 1 := ab_ls_of (ab_mem 735 (by decide +kernel) rfl) msX5_takeLineKind
theorem lX5_22 : ab_lv RX5 22 mX10_takeNumber 2 := ab_lv_of (ab_mem 745 (by decide +kernel) rfl) mvX10_takeNumber
theorem lX5_38 : ab_lv RX5 38 mX10_take 1 := ab_lv_of (ab_mem 740 (by decide +kernel) rfl) mvX10_take
theorem lX5_42 : ab_lv RX5 42 mX5_readCondition 2 := ab_lv_of (ab_mem 748 (by decide +kernel) rfl) mvX5_readCondition
theorem lX5_46 : ab_lv RX5 46 mX4_addLine 3 := ab_lv_of (ab_mem 797 (by decide +kernel) rfl) mvX4_addLine
theorem lX5_59 : ab_lv RX5 59 mX5_readAtom 2 := ab_lv_of (ab_mem 752 (by decide +kernel) rfl) mvX5_readAtom
theorem lX5_65 : ab_lv RX5 65 mX4_addStep 1 := ab_lv_of (ab_mem 765 (by decide +kernel) rfl) mvX4_addStep
theorem lX5_75 : ab_lv RX5 75 mX10_isAt 1 := ab_lv_of (ab_mem 758 (by decide +kernel) rfl) mvX10_isAt
theorem lX5_81 : ab_lv RX5 81 mX5_readDeeper 2 := ab_lv_of (ab_mem 761 (by decide +kernel) rfl) mvX5_readDeeper
theorem lX5_84 : ab_lv RX5 84 mX10_takeAtomWord 0 := ab_lv_of (ab_mem 771 (by decide +kernel) rfl) mvX10_takeAtomWord
theorem lX5_88 : ab_lv RX5 88 mX5_readComparison 1 := ab_lv_of (ab_mem 775 (by decide +kernel) rfl) mvX5_readComparison
theorem lX5_95 : ab_lv RX5 95 mX5_readSum 1 := ab_lv_of (ab_mem 779 (by decide +kernel) rfl) mvX5_readSum
theorem lX5_104 : ab_lv RX5 104 mX10_takePart 0 := ab_lv_of (ab_mem 783 (by decide +kernel) rfl) mvX10_takePart
theorem lX6_13 : ab_lv RX6 13 mX10_isAt 1 := ab_lv_of (ab_mem 671 (by decide +kernel) rfl) mvX10_isAt
theorem lX6_28 : ab_lv RX6 28 mX10_take 1 := ab_lv_of (ab_mem 803 (by decide +kernel) rfl) mvX10_take
theorem lX7_38 : ab_lv RX7 38 mX7_pullOf 4 := ab_lv_of (ab_mem 405 (by decide +kernel) rfl) mvX7_pullOf
theorem lX7_42 : ab_lv RX7 42 mX1_hasMet 2 := ab_lv_of (ab_mem 435 (by decide +kernel) rfl) mvX1_hasMet
theorem lX7_46 : ab_lv RX7 46 mX1_toldOf 2 := ab_lv_of (ab_mem 413 (by decide +kernel) rfl) mvX1_toldOf
theorem lX7_50 : ab_ls RX7 50 mJ6_bitCount_0f7a4 1 := ab_ls_of (ab_mem 429 (by decide +kernel) rfl) msJ6_bitCount_0f7a4
theorem lX7_59 : ab_lv RX7 59 mX7_chanceOf 3 := ab_lv_of (ab_mem 455 (by decide +kernel) rfl) mvX7_chanceOf
theorem lX7_63 : ab_lv RX7 63 mX1_isOut 1 := ab_lv_of (ab_mem 409 (by decide +kernel) rfl) mvX1_isOut
theorem lX7_67 : ab_lv RX7 67 mX7_gather 3 := ab_lv_of (ab_mem 417 (by decide +kernel) rfl) mvX7_gather
theorem lX7_71 : ab_lv RX7 71 mX4_total 2 := ab_lv_of (ab_mem 444 (by decide +kernel) rfl) mvX4_total
theorem lX7_75 : ab_lv RX7 75 mX1_isAwake 1 := ab_lv_of (ab_mem 425 (by decide +kernel) rfl) mvX1_isAwake
theorem lX7_78 : ab_lv RX7 78 mX7_gatherSleeper 2 := ab_lv_of (ab_mem 421 (by decide +kernel) rfl) mvX7_gatherSleeper
theorem lX7_88 : ab_ls RX7 88 mJ9_min_7cf53 2 := ab_ls_of (ab_mem 459 (by decide +kernel) rfl) msJ9_min_7cf53
theorem lX7_93 : ab_ls RX7 93 mJ9_max_7cf53 2 := ab_ls_of (ab_mem 462 (by decide +kernel) rfl) msJ9_max_7cf53
theorem lX7_102 : ab_lv RX7 102 mX1_isShared 2 := ab_lv_of (ab_mem 439 (by decide +kernel) rfl) mvX1_isShared
theorem lX7_105 : ab_lv RX7 105 mX7_study 2 := ab_lv_of (ab_mem 1036 (by decide +kernel) rfl) mvX7_study
theorem lX7_109 : ab_lv RX7 109 mX1_draw 0 := ab_lv_of (ab_mem 1037 (by decide +kernel) rfl) mvX1_draw
theorem lX7_116 : ab_lv RX7 116 mX7_isGood 1 := ab_lv_of (ab_mem 946 (by decide +kernel) rfl) mvX7_isGood
theorem lX7_119 : ab_lv RX7 119 mX1_addLogRow 3 := ab_lv_of (ab_mem 1042 (by decide +kernel) rfl) mvX1_addLogRow
theorem lX7_126 : ab_lv RX7 126 mX7_closeNight 2 := ab_lv_of (ab_mem 1047 (by decide +kernel) rfl) mvX7_closeNight
theorem lX7_129 : ab_lv RX7 129 mX7_fades 4 := ab_lv_of (ab_mem 1051 (by decide +kernel) rfl) mvX7_fades
theorem lX7_133 : ab_lv RX7 133 mX1_fadeLeastMark 2 := ab_lv_of (ab_mem 1055 (by decide +kernel) rfl) mvX1_fadeLeastMark
theorem lX7_143 : ab_lv RX7 143 mX7_isStrongest 4 := ab_lv_of (ab_mem 469 (by decide +kernel) rfl) mvX7_isStrongest
theorem lX8_24 : ab_lv RX8 24 mX7_study 2 := ab_lv_of (ab_mem 401 (by decide +kernel) rfl) mvX7_study
theorem lX8_39 : ab_lv RX8 39 mX7_needOf 4 := ab_lv_of (ab_mem 465 (by decide +kernel) rfl) mvX7_needOf
theorem lX8_43 : ab_ls RX8 43 mJ6_bitCount_0f7a4 1 := ab_ls_of (ab_mem 1179 (by decide +kernel) rfl) msJ6_bitCount_0f7a4
theorem lX8_49 : ab_lv RX8 49 mX8_costOf 2 := ab_lv_of (ab_mem 1180 (by decide +kernel) rfl) mvX8_costOf
theorem lX8_56 : ab_lv RX8 56 mX8_place 5 := ab_lv_of (ab_mem 1204 (by decide +kernel) rfl) mvX8_place
theorem lX8_66 : ab_ls RX8 66 mX8_yearsFrom 2 := ab_ls_of (ab_mem 1209 (by decide +kernel) rfl) msX8_yearsFrom
theorem lX8_73 : ab_lv RX8 73 mX8_firstInLine 1 := ab_lv_of (ab_mem 1319 (by decide +kernel) rfl) mvX8_firstInLine
theorem lX8_77 : ab_lv RX8 77 mX1_isOut 1 := ab_lv_of (ab_mem 1323 (by decide +kernel) rfl) mvX1_isOut
theorem lX9_22 : ab_lv RX9 22 mX1_copyFrom 1 := ab_lv_of (ab_mem 1270 (by decide +kernel) rfl) mvX1_copyFrom
theorem lX9_34 : ab_ls RX9 34 mX9_tellAll 4 := ab_ls_of (ab_mem 1271 (by decide +kernel) rfl) msX9_tellAll
theorem lX9_38 : ab_lv RX9 38 mX7_study 2 := ab_lv_of (ab_mem 1275 (by decide +kernel) rfl) mvX7_study
theorem lX9_44 : ab_ls RX9 44 mX9_isAsDreamt 3 := ab_ls_of (ab_mem 1276 (by decide +kernel) rfl) msX9_isAsDreamt
theorem lX9_51 : ab_lv RX9 51 mX9_keep 3 := ab_lv_of (ab_mem 1279 (by decide +kernel) rfl) mvX9_keep
theorem lX9_58 : ab_lv RX9 58 mX1_toldOf 2 := ab_lv_of (ab_mem 1274 (by decide +kernel) rfl) mvX1_toldOf
theorem lX9_65 : ab_lv RX9 65 mX9_greatestPart 1 := ab_lv_of (ab_mem 1294 (by decide +kernel) rfl) mvX9_greatestPart
theorem lX9_69 : ab_ls RX9 69 mJ9_max_7cf53 2 := ab_ls_of (ab_mem 1298 (by decide +kernel) rfl) msJ9_max_7cf53
theorem lX10_31 : ab_ls RX10 31 mX10_isDigit 1 := ab_ls_of (ab_mem 583 (by decide +kernel) rfl) msX10_isDigit
theorem lX10_39 : ab_ls RX10 39 mX10_numberIn 3 := ab_ls_of (ab_mem 588 (by decide +kernel) rfl) msX10_numberIn
theorem lX10_43 : ab_lv RX10 43 mX10_add 3 := ab_lv_of (ab_mem 591 (by decide +kernel) rfl) mvX10_add
theorem lX10_47 : ab_ls RX10 47 mX10_isLetter 1 := ab_ls_of (ab_mem 595 (by decide +kernel) rfl) msX10_isLetter
theorem lX10_53 : ab_ls RX10 53 mX10_kindOf 4 := ab_ls_of (ab_mem 600 (by decide +kernel) rfl) msX10_kindOf
theorem lX10_57 : ab_ls RX10 57 mX10_marksIn 3 := ab_ls_of (ab_mem 657 (by decide +kernel) rfl) msX10_marksIn
theorem lX10_69 : ab_lv RX10 69 mX3_isSpelled 3 := ab_lv_of (ab_mem 605 (by decide +kernel) rfl) mvX3_isSpelled
theorem lL_7 : ab_lv RL 7 mX11_fortress 0 := ab_lv_of (ab_mem 571 (by decide +kernel) rfl) mvX11_fortress
theorem lL_17 : ab_lv RL 17 mX11_law 0 := ab_lv_of (ab_mem 897 (by decide +kernel) rfl) mvX11_law
theorem lL_20 : ab_lv RL 20 mX11_prisoner 2 := ab_lv_of (ab_mem 914 (by decide +kernel) rfl) mvX11_prisoner
theorem lL_28 : ab_lv RL 28 mX11_sleeper 2 := ab_lv_of (ab_mem 987 (by decide +kernel) rfl) mvX11_sleeper
theorem lL_31 : ab_lv RL 31 mX11_told 2 := ab_lv_of (ab_mem 1006 (by decide +kernel) rfl) mvX11_told
theorem lL_34 : ab_lv RL 34 mX11_pull 2 := ab_lv_of (ab_mem 1014 (by decide +kernel) rfl) mvX11_pull
theorem lL_37 : ab_lv RL 37 mX11_nights 1 := ab_lv_of (ab_mem 1022 (by decide +kernel) rfl) mvX11_nights
theorem lL_41 : ab_lv RL 41 mX11_tell 3 := ab_lv_of (ab_mem 1063 (by decide +kernel) rfl) mvX11_tell
theorem lL_47 : ab_lv RL 47 mX11_cheese 2 := ab_lv_of (ab_mem 1091 (by decide +kernel) rfl) mvX11_cheese
theorem lL_50 : ab_lv RL 50 mX11_meet 2 := ab_lv_of (ab_mem 1099 (by decide +kernel) rfl) mvX11_meet
theorem lL_54 : ab_lv RL 54 mX11_wake 1 := ab_lv_of (ab_mem 1107 (by decide +kernel) rfl) mvX11_wake
theorem lL_58 : ab_lv RL 58 mX11_strict 1 := ab_lv_of (ab_mem 1114 (by decide +kernel) rfl) mvX11_strict
theorem lL_61 : ab_lv RL 61 mX11_retake 1 := ab_lv_of (ab_mem 1122 (by decide +kernel) rfl) mvX11_retake
theorem lL_64 : ab_lv RL 64 mX11_forget 1 := ab_lv_of (ab_mem 1130 (by decide +kernel) rfl) mvX11_forget
theorem lL_67 : ab_lv RL 67 mX11_within 2 := ab_lv_of (ab_mem 1141 (by decide +kernel) rfl) mvX11_within
theorem lL_70 : ab_lv RL 70 mX11_soon 2 := ab_lv_of (ab_mem 1151 (by decide +kernel) rfl) mvX11_soon
theorem lL_73 : ab_lv RL 73 mX11_need 2 := ab_lv_of (ab_mem 1159 (by decide +kernel) rfl) mvX11_need
theorem lL_76 : ab_lv RL 76 mX11_cover 2 := ab_lv_of (ab_mem 1167 (by decide +kernel) rfl) mvX11_cover
theorem lL_79 : ab_lv RL 79 mX11_whom 2 := ab_lv_of (ab_mem 1188 (by decide +kernel) rfl) mvX11_whom
theorem lL_82 : ab_lv RL 82 mX11_outs 2 := ab_lv_of (ab_mem 1195 (by decide +kernel) rfl) mvX11_outs
theorem lL_85 : ab_lv RL 85 mX11_sworn 0 := ab_lv_of (ab_mem 1215 (by decide +kernel) rfl) mvX11_sworn
theorem lL_88 : ab_lv RL 88 mX11_likely 0 := ab_lv_of (ab_mem 1238 (by decide +kernel) rfl) mvX11_likely
theorem lL_91 : ab_lv RL 91 mX11_ask 0 := ab_lv_of (ab_mem 1245 (by decide +kernel) rfl) mvX11_ask
theorem lL_94 : ab_lv RL 94 mX11_rumour 1 := ab_lv_of (ab_mem 1257 (by decide +kernel) rfl) mvX11_rumour
theorem lL_98 : ab_lv RL 98 mX11_next 0 := ab_lv_of (ab_mem 1286 (by decide +kernel) rfl) mvX11_next
theorem lL_101 : ab_lv RL 101 mX11_like 2 := ab_lv_of (ab_mem 1302 (by decide +kernel) rfl) mvX11_like
theorem lL_104 : ab_lv RL 104 mX11_beds 2 := ab_lv_of (ab_mem 1310 (by decide +kernel) rfl) mvX11_beds
theorem lL_107 : ab_lv RL 107 mX11_couples 1 := ab_lv_of (ab_mem 1327 (by decide +kernel) rfl) mvX11_couples
theorem lL_110 : ab_lv RL 110 mX11_friends 2 := ab_lv_of (ab_mem 1348 (by decide +kernel) rfl) mvX11_friends
theorem lL_113 : ab_lv RL 113 mX11_rests 2 := ab_lv_of (ab_mem 1356 (by decide +kernel) rfl) mvX11_rests
theorem lL_116 : ab_lv RL 116 mX11_mark 1 := ab_lv_of (ab_mem 1369 (by decide +kernel) rfl) mvX11_mark
theorem lL_119 : ab_lv RL 119 mX11_ahead 3 := ab_lv_of (ab_mem 1376 (by decide +kernel) rfl) mvX11_ahead
theorem lL_122 : ab_lv RL 122 mX11_trial 2 := ab_lv_of (ab_mem 1384 (by decide +kernel) rfl) mvX11_trial
theorem lL_126 : ab_lv RL 126 mX11_span 2 := ab_lv_of (ab_mem 1395 (by decide +kernel) rfl) mvX11_span
theorem lL_129 : ab_lv RL 129 mX11_led 2 := ab_lv_of (ab_mem 1402 (by decide +kernel) rfl) mvX11_led
theorem lL_132 : ab_lv RL 132 mX11_log 2 := ab_lv_of (ab_mem 1413 (by decide +kernel) rfl) mvX11_log
theorem lL_139 : ab_lv RL 139 mX11_feed 5 := ab_lv_of (ab_mem 377 (by decide +kernel) rfl) mvX11_feed
theorem lL_143 : ab_lv RL 143 mX12_feed 5 := ab_lv_of (ab_mem 1517 (by decide +kernel) rfl) mvX12_feed
theorem lL_144 : ab_lv RL 144 mX11_end 1 := ab_lv_of (ab_mem 385 (by decide +kernel) rfl) mvX11_end
theorem lL_147 : ab_lv RL 147 mX12_end 1 := ab_lv_of (ab_mem 1521 (by decide +kernel) rfl) mvX12_end
theorem lL_153 : ab_lv RL 153 mX12_fortress 0 := ab_lv_of (ab_mem 1529 (by decide +kernel) rfl) mvX12_fortress
theorem lL_154 : ab_lv RL 154 mX12_thrown 0 := ab_lv_of (ab_mem 1418 (by decide +kernel) rfl) mvX12_thrown
theorem lL_159 : ab_lv RL 159 mX12_law 0 := ab_lv_of (ab_mem 1686 (by decide +kernel) rfl) mvX12_law
theorem lL_160 : ab_lv RL 160 mX11_fault 0 := ab_lv_of (ab_mem 389 (by decide +kernel) rfl) mvX11_fault
theorem lL_163 : ab_lv RL 163 mX12_fault 0 := ab_lv_of (ab_mem 1525 (by decide +kernel) rfl) mvX12_fault
theorem lL_167 : ab_lv RL 167 mX12_prisoner 2 := ab_lv_of (ab_mem 1777 (by decide +kernel) rfl) mvX12_prisoner
theorem lL_170 : ab_lv RL 170 mX12_sleeper 2 := ab_lv_of (ab_mem 1818 (by decide +kernel) rfl) mvX12_sleeper
theorem lL_173 : ab_lv RL 173 mX12_told 2 := ab_lv_of (ab_mem 1834 (by decide +kernel) rfl) mvX12_told
theorem lL_176 : ab_lv RL 176 mX12_pull 2 := ab_lv_of (ab_mem 1842 (by decide +kernel) rfl) mvX12_pull
theorem lL_180 : ab_lv RL 180 mX12_nights 1 := ab_lv_of (ab_mem 1690 (by decide +kernel) rfl) mvX12_nights
theorem lL_184 : ab_lv RL 184 mX12_tell 3 := ab_lv_of (ab_mem 1846 (by decide +kernel) rfl) mvX12_tell
theorem lL_187 : ab_lv RL 187 mX12_cheese 2 := ab_lv_of (ab_mem 1850 (by decide +kernel) rfl) mvX12_cheese
theorem lL_190 : ab_lv RL 190 mX12_meet 2 := ab_lv_of (ab_mem 1858 (by decide +kernel) rfl) mvX12_meet
theorem lL_193 : ab_lv RL 193 mX12_wake 1 := ab_lv_of (ab_mem 1862 (by decide +kernel) rfl) mvX12_wake
theorem lL_196 : ab_lv RL 196 mX12_strict 1 := ab_lv_of (ab_mem 1866 (by decide +kernel) rfl) mvX12_strict
theorem lL_199 : ab_lv RL 199 mX12_retake 1 := ab_lv_of (ab_mem 1870 (by decide +kernel) rfl) mvX12_retake
theorem lL_202 : ab_lv RL 202 mX12_forget 1 := ab_lv_of (ab_mem 1878 (by decide +kernel) rfl) mvX12_forget
theorem lL_205 : ab_lv RL 205 mX12_within 2 := ab_lv_of (ab_mem 1882 (by decide +kernel) rfl) mvX12_within
theorem lL_208 : ab_lv RL 208 mX12_soon 2 := ab_lv_of (ab_mem 1890 (by decide +kernel) rfl) mvX12_soon
theorem lL_211 : ab_lv RL 211 mX12_need 2 := ab_lv_of (ab_mem 1894 (by decide +kernel) rfl) mvX12_need
theorem lL_214 : ab_lv RL 214 mX12_cover 2 := ab_lv_of (ab_mem 1902 (by decide +kernel) rfl) mvX12_cover
theorem lL_217 : ab_lv RL 217 mX12_whom 2 := ab_lv_of (ab_mem 1918 (by decide +kernel) rfl) mvX12_whom
theorem lL_220 : ab_lv RL 220 mX12_outs 2 := ab_lv_of (ab_mem 1922 (by decide +kernel) rfl) mvX12_outs
theorem lL_223 : ab_lv RL 223 mX12_sworn 0 := ab_lv_of (ab_mem 1937 (by decide +kernel) rfl) mvX12_sworn
theorem lL_226 : ab_lv RL 226 mX12_likely 0 := ab_lv_of (ab_mem 1953 (by decide +kernel) rfl) mvX12_likely
theorem lL_229 : ab_lv RL 229 mX12_ask 0 := ab_lv_of (ab_mem 1957 (by decide +kernel) rfl) mvX12_ask
theorem lL_233 : ab_lv RL 233 mX12_rumour 1 := ab_lv_of (ab_mem 1965 (by decide +kernel) rfl) mvX12_rumour
theorem lL_236 : ab_lv RL 236 mX12_next 0 := ab_lv_of (ab_mem 1989 (by decide +kernel) rfl) mvX12_next
theorem lL_239 : ab_lv RL 239 mX12_like 2 := ab_lv_of (ab_mem 1997 (by decide +kernel) rfl) mvX12_like
theorem lL_240 : ab_lv RL 240 mX11_twice 0 := ab_lv_of (ab_mem 478 (by decide +kernel) rfl) mvX11_twice
theorem lL_243 : ab_lv RL 243 mX12_twice 0 := ab_lv_of (ab_mem 2005 (by decide +kernel) rfl) mvX12_twice
theorem lL_244 : ab_lv RL 244 mX11_vain 0 := ab_lv_of (ab_mem 483 (by decide +kernel) rfl) mvX11_vain
theorem lL_247 : ab_lv RL 247 mX12_vain 0 := ab_lv_of (ab_mem 2009 (by decide +kernel) rfl) mvX12_vain
theorem lL_248 : ab_lv RL 248 mX11_never 0 := ab_lv_of (ab_mem 393 (by decide +kernel) rfl) mvX11_never
theorem lL_251 : ab_lv RL 251 mX12_never 0 := ab_lv_of (ab_mem 2013 (by decide +kernel) rfl) mvX12_never
theorem lL_254 : ab_lv RL 254 mX12_beds 2 := ab_lv_of (ab_mem 2017 (by decide +kernel) rfl) mvX12_beds
theorem lL_257 : ab_lv RL 257 mX12_couples 1 := ab_lv_of (ab_mem 2021 (by decide +kernel) rfl) mvX12_couples
theorem lL_258 : ab_lv RL 258 mX11_gossip 0 := ab_lv_of (ab_mem 491 (by decide +kernel) rfl) mvX11_gossip
theorem lL_261 : ab_lv RL 261 mX12_gossip 0 := ab_lv_of (ab_mem 2044 (by decide +kernel) rfl) mvX12_gossip
theorem lL_264 : ab_lv RL 264 mX12_friends 2 := ab_lv_of (ab_mem 2048 (by decide +kernel) rfl) mvX12_friends
theorem lL_267 : ab_lv RL 267 mX12_rests 2 := ab_lv_of (ab_mem 2052 (by decide +kernel) rfl) mvX12_rests
theorem lL_268 : ab_lv RL 268 mX11_longest 0 := ab_lv_of (ab_mem 500 (by decide +kernel) rfl) mvX11_longest
theorem lL_271 : ab_lv RL 271 mX12_longest 0 := ab_lv_of (ab_mem 2064 (by decide +kernel) rfl) mvX12_longest
theorem lL_272 : ab_lv RL 272 mX11_out 0 := ab_lv_of (ab_mem 504 (by decide +kernel) rfl) mvX11_out
theorem lL_275 : ab_lv RL 275 mX12_out 0 := ab_lv_of (ab_mem 2068 (by decide +kernel) rfl) mvX12_out
theorem lL_276 : ab_lv RL 276 mX11_awake 0 := ab_lv_of (ab_mem 508 (by decide +kernel) rfl) mvX11_awake
theorem lL_279 : ab_lv RL 279 mX12_awake 0 := ab_lv_of (ab_mem 2072 (by decide +kernel) rfl) mvX12_awake
theorem lL_280 : ab_lv RL 280 mX11_twins 0 := ab_lv_of (ab_mem 512 (by decide +kernel) rfl) mvX11_twins
theorem lL_283 : ab_lv RL 283 mX12_twins 0 := ab_lv_of (ab_mem 2076 (by decide +kernel) rfl) mvX12_twins
theorem lL_286 : ab_lv RL 286 mX12_mark 1 := ab_lv_of (ab_mem 2080 (by decide +kernel) rfl) mvX12_mark
theorem lL_287 : ab_lv RL 287 mX11_sound 0 := ab_lv_of (ab_mem 516 (by decide +kernel) rfl) mvX11_sound
theorem lL_290 : ab_lv RL 290 mX12_sound 0 := ab_lv_of (ab_mem 2084 (by decide +kernel) rfl) mvX12_sound
theorem lL_293 : ab_lv RL 293 mX12_ahead 3 := ab_lv_of (ab_mem 2088 (by decide +kernel) rfl) mvX12_ahead
theorem lL_297 : ab_lv RL 297 mX12_trial 2 := ab_lv_of (ab_mem 2095 (by decide +kernel) rfl) mvX12_trial
theorem lL_300 : ab_lv RL 300 mX12_span 2 := ab_lv_of (ab_mem 2099 (by decide +kernel) rfl) mvX12_span
theorem lL_303 : ab_lv RL 303 mX12_led 2 := ab_lv_of (ab_mem 2107 (by decide +kernel) rfl) mvX12_led
theorem lL_306 : ab_lv RL 306 mX12_log 2 := ab_lv_of (ab_mem 2115 (by decide +kernel) rfl) mvX12_log
theorem lL_307 : ab_lv RL 307 mX11_seed 1 := ab_lv_of (ab_mem 520 (by decide +kernel) rfl) mvX11_seed
theorem lL_310 : ab_lv RL 310 mX12_seed 1 := ab_lv_of (ab_mem 2119 (by decide +kernel) rfl) mvX12_seed
theorem lL_311 : ab_lv RL 311 mX11_undo 0 := ab_lv_of (ab_mem 524 (by decide +kernel) rfl) mvX11_undo
theorem lL_315 : ab_lv RL 315 mX12_undo 0 := ab_lv_of (ab_mem 1513 (by decide +kernel) rfl) mvX12_undo
theorem lL_316 : ab_lv RL 316 mX11_image 0 := ab_lv_of (ab_mem 535 (by decide +kernel) rfl) mvX11_image
theorem lL_319 : ab_lv RL 319 mX12_image 0 := ab_lv_of (ab_mem 1505 (by decide +kernel) rfl) mvX12_image
theorem lL_320 : ab_lv RL 320 mX11_back 0 := ab_lv_of (ab_mem 544 (by decide +kernel) rfl) mvX11_back
theorem lL_323 : ab_lv RL 323 mX12_back 0 := ab_lv_of (ab_mem 1509 (by decide +kernel) rfl) mvX12_back
theorem lL_324 : ab_lv RL 324 mX11_count 1 := ab_lv_of (ab_mem 552 (by decide +kernel) rfl) mvX11_count
theorem lL_327 : ab_lv RL 327 mX12_count 1 := ab_lv_of (ab_mem 2123 (by decide +kernel) rfl) mvX12_count
theorem lX12_68 : ab_ls RX12 68 mX12_prisonerAt 2 := ab_ls_of (ab_mem 1597 (by decide +kernel) rfl) msX12_prisonerAt
theorem lX12_72 : ab_ls RX12 72 mX12_at 2 := ab_ls_of (ab_mem 1615 (by decide +kernel) rfl) msX12_at
theorem lX12_75 : ab_ls RX12 75 mX12_toldAt 2 := ab_ls_of (ab_mem 1600 (by decide +kernel) rfl) msX12_toldAt
theorem lX12_78 : ab_lv RX12 78 mX12_ofPrisoner 2 := ab_lv_of (ab_mem 1624 (by decide +kernel) rfl) mvX12_ofPrisoner
theorem lX12_81 : ab_lv RX12 81 mX12_prisoners 0 := ab_lv_of (ab_mem 1572 (by decide +kernel) rfl) mvX12_prisoners
theorem lX12_85 : ab_lv RX12 85 mX12_isOut 1 := ab_lv_of (ab_mem 1757 (by decide +kernel) rfl) mvX12_isOut
theorem lX12_89 : ab_ls RX12 89 mX12_in 3 := ab_ls_of (ab_mem 1694 (by decide +kernel) rfl) msX12_in
theorem lX12_93 : ab_lv RX12 93 mX12_sleepers 0 := ab_lv_of (ab_mem 1608 (by decide +kernel) rfl) mvX12_sleepers
theorem lX12_106 : ab_lv RX12 106 mX12_isAt 2 := ab_lv_of (ab_mem 1545 (by decide +kernel) rfl) mvX12_isAt
theorem lX12_113 : ab_lv RX12 113 mX12_blanks 0 := ab_lv_of (ab_mem 1541 (by decide +kernel) rfl) mvX12_blanks
theorem lX12_116 : ab_lv RX12 116 mJ0_length_8abf5 0 := ab_lv_of (ab_mem 1566 (by decide +kernel) rfl) mvJ0_length_8abf5
theorem lX12_121 : ab_lv RX12 121 mJ0_charAt_5068e 1 := ab_lv_of (ab_mem 1567 (by decide +kernel) rfl) mvJ0_charAt_5068e
theorem lX12_125 : ab_lv RX12 125 mX12_letters 0 := ab_lv_of (ab_mem 1553 (by decide +kernel) rfl) mvX12_letters
theorem lX12_128 : ab_lv RX12 128 mX12_isWord 1 := ab_lv_of (ab_mem 1562 (by decide +kernel) rfl) mvX12_isWord
theorem lX12_132 : ab_lv RX12 132 mX12_number 2 := ab_lv_of (ab_mem 1581 (by decide +kernel) rfl) mvX12_number
theorem lX12_135 : ab_ls RX12 135 mX12_has 2 := ab_ls_of (ab_mem 1594 (by decide +kernel) rfl) msX12_has
theorem lX12_140 : ab_lv RX12 140 mX12_behind 3 := ab_lv_of (ab_mem 1577 (by decide +kernel) rfl) mvX12_behind
theorem lX12_146 : ab_lv RX12 146 mX12_passes 1 := ab_lv_of (ab_mem 1586 (by decide +kernel) rfl) mvX12_passes
theorem lX12_149 : ab_lv RX12 149 mX12_marksTold 0 := ab_lv_of (ab_mem 1590 (by decide +kernel) rfl) mvX12_marksTold
theorem lX12_162 : ab_lv RX12 162 mX12_readPrisoner 0 := ab_lv_of (ab_mem 1568 (by decide +kernel) rfl) mvX12_readPrisoner
theorem lX12_168 : ab_lv RX12 168 mX12_readSleeper 0 := ab_lv_of (ab_mem 1604 (by decide +kernel) rfl) mvX12_readSleeper
theorem lX12_173 : ab_lv RX12 173 mX12_readTold 0 := ab_lv_of (ab_mem 1620 (by decide +kernel) rfl) mvX12_readTold
theorem lX12_178 : ab_lv RX12 178 mX12_readNumber 3 := ab_lv_of (ab_mem 1629 (by decide +kernel) rfl) mvX12_readNumber
theorem lX12_186 : ab_lv RX12 186 mX12_wordOfPart 0 := ab_lv_of (ab_mem 1676 (by decide +kernel) rfl) mvX12_wordOfPart
theorem lX12_189 : ab_lv RX12 189 mX12_emits 2 := ab_lv_of (ab_mem 1659 (by decide +kernel) rfl) mvX12_emits
theorem lX12_193 : ab_lv RX12 193 mX12_readPart 0 := ab_lv_of (ab_mem 1672 (by decide +kernel) rfl) mvX12_readPart
theorem lX12_196 : ab_lv RX12 196 mX12_sign 1 := ab_lv_of (ab_mem 1654 (by decide +kernel) rfl) mvX12_sign
theorem lX12_204 : ab_lv RX12 204 mX12_readCond 0 := ab_lv_of (ab_mem 1642 (by decide +kernel) rfl) mvX12_readCond
theorem lX12_209 : ab_lv RX12 209 mX12_readAtom 0 := ab_lv_of (ab_mem 1650 (by decide +kernel) rfl) mvX12_readAtom
theorem lX12_212 : ab_lv RX12 212 mX12_readTag 0 := ab_lv_of (ab_mem 1663 (by decide +kernel) rfl) mvX12_readTag
theorem lX12_215 : ab_lv RX12 215 mX12_readSum 0 := ab_lv_of (ab_mem 1668 (by decide +kernel) rfl) mvX12_readSum
theorem lX12_220 : ab_lv RX12 220 mX12_readAllOf 0 := ab_lv_of (ab_mem 1646 (by decide +kernel) rfl) mvX12_readAllOf
theorem lX12_233 : ab_lv RX12 233 mX12_readFortressLine 0 := ab_lv_of (ab_mem 1557 (by decide +kernel) rfl) mvX12_readFortressLine
theorem lX12_236 : ab_lv RX12 236 mX12_readLawLine 1 := ab_lv_of (ab_mem 1634 (by decide +kernel) rfl) mvX12_readLawLine
theorem lX12_239 : ab_lv RX12 239 mX12_uses 0 := ab_lv_of (ab_mem 1537 (by decide +kernel) rfl) mvX12_uses
theorem lX12_242 : ab_lv RX12 242 mX12_readLine 2 := ab_lv_of (ab_mem 1549 (by decide +kernel) rfl) mvX12_readLine
theorem lX12_246 : ab_lv RX12 246 mX12_readAll 1 := ab_lv_of (ab_mem 1533 (by decide +kernel) rfl) mvX12_readAll
theorem lX12_250 : ab_lv RX12 250 mX12_throwsIf 2 := ab_lv_of (ab_mem 1682 (by decide +kernel) rfl) mvX12_throwsIf
theorem lX12_253 : ab_lv RX12 253 mX12_toldOf 2 := ab_lv_of (ab_mem 1740 (by decide +kernel) rfl) mvX12_toldOf
theorem lX12_256 : ab_ls RX12 256 mJ9_max_7cf53 2 := ab_ls_of (ab_mem 1738 (by decide +kernel) rfl) msJ9_max_7cf53
theorem lX12_261 : ab_lv RX12 261 mX12_of 2 := ab_lv_of (ab_mem 1722 (by decide +kernel) rfl) mvX12_of
theorem lX12_264 : ab_ls RX12 264 mJ6_bitCount_0f7a4 1 := ab_ls_of (ab_mem 1739 (by decide +kernel) rfl) msJ6_bitCount_0f7a4
theorem lX12_270 : ab_lv RX12 270 mX12_isShared 2 := ab_lv_of (ab_mem 1744 (by decide +kernel) rfl) mvX12_isShared
theorem lX12_273 : ab_lv RX12 273 mX12_factOf 4 := ab_lv_of (ab_mem 1734 (by decide +kernel) rfl) mvX12_factOf
theorem lX12_277 : ab_lv RX12 277 mX12_holdsLine 3 := ab_lv_of (ab_mem 1730 (by decide +kernel) rfl) mvX12_holdsLine
theorem lX12_280 : ab_lv RX12 280 mX12_sumOf 3 := ab_lv_of (ab_mem 1726 (by decide +kernel) rfl) mvX12_sumOf
theorem lX12_284 : ab_ls RX12 284 mJ9_min_7cf53 2 := ab_ls_of (ab_mem 1748 (by decide +kernel) rfl) msJ9_min_7cf53
theorem lX12_287 : ab_lv RX12 287 mX12_pullOf 2 := ab_lv_of (ab_mem 1753 (by decide +kernel) rfl) mvX12_pullOf
theorem lX12_290 : ab_lv RX12 290 mX12_isGood 2 := ab_lv_of (ab_mem 1761 (by decide +kernel) rfl) mvX12_isGood
theorem lX12_293 : ab_lv RX12 293 mX12_dreamOf 1 := ab_lv_of (ab_mem 1749 (by decide +kernel) rfl) mvX12_dreamOf
theorem lX12_296 : ab_lv RX12 296 mX12_drawn 1 := ab_lv_of (ab_mem 1713 (by decide +kernel) rfl) mvX12_drawn
theorem lX12_299 : ab_lv RX12 299 mX12_chanceOf 1 := ab_lv_of (ab_mem 1718 (by decide +kernel) rfl) mvX12_chanceOf
theorem lX12_305 : ab_lv RX12 305 mX12_isTold 3 := ab_lv_of (ab_mem 1765 (by decide +kernel) rfl) mvX12_isTold
theorem lX12_309 : ab_lv RX12 309 mX12_fades 2 := ab_lv_of (ab_mem 1773 (by decide +kernel) rfl) mvX12_fades
theorem lX12_312 : ab_lv RX12 312 mX12_allDream 0 := ab_lv_of (ab_mem 1709 (by decide +kernel) rfl) mvX12_allDream
theorem lX12_315 : ab_lv RX12 315 mX12_allFade 0 := ab_lv_of (ab_mem 1769 (by decide +kernel) rfl) mvX12_allFade
theorem lX12_318 : ab_lv RX12 318 mX12_oneNight 1 := ab_lv_of (ab_mem 1705 (by decide +kernel) rfl) mvX12_oneNight
theorem lX12_321 : ab_lv RX12 321 mX12_remembers 0 := ab_lv_of (ab_mem 1697 (by decide +kernel) rfl) mvX12_remembers
theorem lX12_324 : ab_lv RX12 324 mX12_goesOn 2 := ab_lv_of (ab_mem 1701 (by decide +kernel) rfl) mvX12_goesOn
theorem lX12_328 : ab_lv RX12 328 mX12_isGoodDream 2 := ab_lv_of (ab_mem 1789 (by decide +kernel) rfl) mvX12_isGoodDream
theorem lX12_331 : ab_lv RX12 331 mX12_oddsOf 1 := ab_lv_of (ab_mem 1785 (by decide +kernel) rfl) mvX12_oddsOf
theorem lX12_335 : ab_lv RX12 335 mX12_oddsIfAwake 2 := ab_lv_of (ab_mem 1810 (by decide +kernel) rfl) mvX12_oddsIfAwake
theorem lX12_338 : ab_lv RX12 338 mX12_enemyOf 1 := ab_lv_of (ab_mem 1805 (by decide +kernel) rfl) mvX12_enemyOf
theorem lX12_341 : ab_lv RX12 341 mX12_noPrisoner 1 := ab_lv_of (ab_mem 1781 (by decide +kernel) rfl) mvX12_noPrisoner
theorem lX12_344 : ab_lv RX12 344 mX12_marksOfOthers 1 := ab_lv_of (ab_mem 1793 (by decide +kernel) rfl) mvX12_marksOfOthers
theorem lX12_347 : ab_lv RX12 347 mX12_mistakenFor 1 := ab_lv_of (ab_mem 1797 (by decide +kernel) rfl) mvX12_mistakenFor
theorem lX12_350 : ab_lv RX12 350 mX12_dreamersOf 1 := ab_lv_of (ab_mem 1801 (by decide +kernel) rfl) mvX12_dreamersOf
theorem lX12_353 : ab_lv RX12 353 mX12_worthOf 1 := ab_lv_of (ab_mem 1814 (by decide +kernel) rfl) mvX12_worthOf
theorem lX12_356 : ab_lv RX12 356 mX12_toldTo 1 := ab_lv_of (ab_mem 1830 (by decide +kernel) rfl) mvX12_toldTo
theorem lX12_359 : ab_lv RX12 359 mX12_noSleeper 1 := ab_lv_of (ab_mem 1822 (by decide +kernel) rfl) mvX12_noSleeper
theorem lX12_362 : ab_lv RX12 362 mX12_toldAll 0 := ab_lv_of (ab_mem 1826 (by decide +kernel) rfl) mvX12_toldAll
theorem lX12_365 : ab_lv RX12 365 mX12_noSuch 2 := ab_lv_of (ab_mem 1838 (by decide +kernel) rfl) mvX12_noSuch
theorem lX12_368 : ab_lv RX12 368 mX12_isNow 2 := ab_lv_of (ab_mem 1854 (by decide +kernel) rfl) mvX12_isNow
theorem lX12_371 : ab_lv RX12 371 mX12_outOnes 0 := ab_lv_of (ab_mem 1874 (by decide +kernel) rfl) mvX12_outOnes
theorem lX12_374 : ab_lv RX12 374 mX12_inNights 2 := ab_lv_of (ab_mem 1886 (by decide +kernel) rfl) mvX12_inNights
theorem lX12_377 : ab_lv RX12 377 mX12_needOf 2 := ab_lv_of (ab_mem 1898 (by decide +kernel) rfl) mvX12_needOf
theorem lX12_380 : ab_lv RX12 380 mX12_laysNeeds 0 := ab_lv_of (ab_mem 1914 (by decide +kernel) rfl) mvX12_laysNeeds
theorem lX12_383 : ab_lv RX12 383 mX12_wrongCover 2 := ab_lv_of (ab_mem 1906 (by decide +kernel) rfl) mvX12_wrongCover
theorem lX12_386 : ab_lv RX12 386 mX12_coveredBy 2 := ab_lv_of (ab_mem 1910 (by decide +kernel) rfl) mvX12_coveredBy
theorem lX12_389 : ab_ls RX12 389 mX12_yearsAt 3 := ab_ls_of (ab_mem 1930 (by decide +kernel) rfl) msX12_yearsAt
theorem lX12_392 : ab_lv RX12 392 mX12_yearsIf 4 := ab_lv_of (ab_mem 1933 (by decide +kernel) rfl) mvX12_yearsIf
theorem lX12_395 : ab_lv RX12 395 mX12_laysYears 0 := ab_lv_of (ab_mem 1926 (by decide +kernel) rfl) mvX12_laysYears
theorem lX12_398 : ab_lv RX12 398 mX12_wrongOf 1 := ab_lv_of (ab_mem 1949 (by decide +kernel) rfl) mvX12_wrongOf
theorem lX12_401 : ab_lv RX12 401 mX12_isSworn 0 := ab_lv_of (ab_mem 1941 (by decide +kernel) rfl) mvX12_isSworn
theorem lX12_404 : ab_lv RX12 404 mX12_swornTo 0 := ab_lv_of (ab_mem 1945 (by decide +kernel) rfl) mvX12_swornTo
theorem lX12_407 : ab_lv RX12 407 mX12_havingOf 1 := ab_lv_of (ab_mem 1961 (by decide +kernel) rfl) mvX12_havingOf
theorem lX12_410 : ab_lv RX12 410 mX12_keepsAll 0 := ab_lv_of (ab_mem 1977 (by decide +kernel) rfl) mvX12_keepsAll
theorem lX12_413 : ab_lv RX12 413 mX12_bringsBack 0 := ab_lv_of (ab_mem 1981 (by decide +kernel) rfl) mvX12_bringsBack
theorem lX12_416 : ab_lv RX12 416 mX12_isRumour 0 := ab_lv_of (ab_mem 1969 (by decide +kernel) rfl) mvX12_isRumour
theorem lX12_419 : ab_lv RX12 419 mX12_laysRumours 0 := ab_lv_of (ab_mem 1973 (by decide +kernel) rfl) mvX12_laysRumours
theorem lX12_422 : ab_lv RX12 422 mX12_fitsRumour 1 := ab_lv_of (ab_mem 1985 (by decide +kernel) rfl) mvX12_fitsRumour
theorem lX12_425 : ab_lv RX12 425 mX12_partBy 1 := ab_lv_of (ab_mem 1993 (by decide +kernel) rfl) mvX12_partBy
theorem lX12_428 : ab_lv RX12 428 mX12_noTwoPrisoners 2 := ab_lv_of (ab_mem 2001 (by decide +kernel) rfl) mvX12_noTwoPrisoners
theorem lX12_431 : ab_ls RX12 431 mJ6_numberOfTrailingZeros_0f7a4 1 := ab_ls_of (ab_mem 2036 (by decide +kernel) rfl) msJ6_numberOfTrailingZeros_0f7a4
theorem lX12_434 : ab_ls RX12 434 mX12_firstOf 1 := ab_ls_of (ab_mem 2033 (by decide +kernel) rfl) msX12_firstOf
theorem lX12_437 : ab_lv RX12 437 mX12_bothTold 2 := ab_lv_of (ab_mem 2040 (by decide +kernel) rfl) mvX12_bothTold
theorem lX12_440 : ab_lv RX12 440 mX12_pairedBy 2 := ab_lv_of (ab_mem 2029 (by decide +kernel) rfl) mvX12_pairedBy
theorem lX12_443 : ab_lv RX12 443 mX12_laysPairs 0 := ab_lv_of (ab_mem 2025 (by decide +kernel) rfl) mvX12_laysPairs
theorem lX12_446 : ab_lv RX12 446 mX12_tellerHas 4 := ab_lv_of (ab_mem 2056 (by decide +kernel) rfl) mvX12_tellerHas
theorem lX12_449 : ab_lv RX12 449 mX12_enemyHas 3 := ab_lv_of (ab_mem 2060 (by decide +kernel) rfl) mvX12_enemyHas
theorem lX12_452 : ab_ls RX12 452 mX12_noAhead 1 := ab_ls_of (ab_mem 2092 (by decide +kernel) rfl) msX12_noAhead
theorem lX12_455 : ab_lv RX12 455 mX12_yearsOut 0 := ab_lv_of (ab_mem 2103 (by decide +kernel) rfl) mvX12_yearsOut
theorem lX12_458 : ab_lv RX12 458 mX12_ofLog 2 := ab_lv_of (ab_mem 2111 (by decide +kernel) rfl) mvX12_ofLog
theorem lJ0_335 : ab_lv RJ0 335 mJ0_coder_7d493 0 := ab_lv_of (ab_mem 613 (by decide +kernel) rfl) mvJ0_coder_7d493
theorem lJ0_492 : ab_lv RJ0 492 mJ0_isLatin1_aae02 0 := ab_lv_of (ab_mem 623 (by decide +kernel) rfl) mvJ0_isLatin1_aae02
theorem lJ0_495 : ab_ls RJ0 495 mJ1_charAt_3b067 2 := ab_ls_of (ab_mem 627 (by decide +kernel) rfl) msJ1_charAt_3b067
theorem lJ0_498 : ab_ls RJ0 498 mJ2_charAt_3b067 2 := ab_ls_of (ab_mem 638 (by decide +kernel) rfl) msJ2_charAt_3b067
theorem lJ0_1059 : ab_ls RJ0 1059 mJ3_checkIndex_8e157 3 := ab_ls_of (ab_mem 635 (by decide +kernel) rfl) msJ3_checkIndex_8e157
theorem lJ1_9 : ab_ls RJ1 9 mJ0_checkIndex_df160 2 := ab_ls_of (ab_mem 630 (by decide +kernel) rfl) msJ0_checkIndex_df160
theorem lJ2_48 : ab_ls RJ2 48 mJ2_length_9d52b 1 := ab_ls_of (ab_mem 644 (by decide +kernel) rfl) msJ2_length_9d52b
theorem lJ2_67 : ab_ls RJ2 67 mJ2_checkIndex_2214a 2 := ab_ls_of (ab_mem 641 (by decide +kernel) rfl) msJ2_checkIndex_2214a
theorem lJ2_71 : ab_ls RJ2 71 mJ2_getChar_3b067 2 := ab_ls_of (ab_mem 648 (by decide +kernel) rfl) msJ2_getChar_3b067
theorem lJ2_414 : ab_ls RJ2 414 mJ0_checkIndex_df160 2 := ab_ls_of (ab_mem 647 (by decide +kernel) rfl) msJ0_checkIndex_df160
