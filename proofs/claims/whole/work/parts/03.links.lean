set_option maxRecDepth 30000 in
theorem x_me0 : x_meP (xE 0) := ⟨x_t 40 rfl, x_t 3 rfl, fun h => absurd h (by decide), fun _ => ⟨x_t 39 rfl, Or.inl rfl⟩, by decide +kernel, by decide +kernel, by decide +kernel, by decide +kernel, by decide +kernel⟩
set_option maxRecDepth 30000 in
theorem x_me1 : x_meP (xE 1) := ⟨x_t 344 rfl, x_t 3 rfl, fun h => absurd h (by decide), fun _ => ⟨x_t 342 rfl, Or.inr (x_t 343 rfl)⟩, by decide +kernel, by decide +kernel, by decide +kernel, by decide +kernel, by decide +kernel⟩
set_option maxRecDepth 30000 in
theorem x_me2 : x_meP (xE 2) := ⟨x_t 462 rfl, x_t 3 rfl, fun h => absurd h (by decide), fun _ => ⟨x_t 460 rfl, Or.inr (x_t 461 rfl)⟩, by decide +kernel, by decide +kernel, by decide +kernel, by decide +kernel, by decide +kernel⟩
set_option maxRecDepth 30000 in
theorem x_me3 : x_meP (xE 3) := ⟨x_t 473 rfl, x_t 3 rfl, fun h => absurd h (by decide), fun _ => ⟨x_t 471 rfl, Or.inr (x_t 472 rfl)⟩, by decide +kernel, by decide +kernel, by decide +kernel, by decide +kernel, by decide +kernel⟩
set_option maxRecDepth 30000 in
theorem x_me4 : x_meP (xE 4) := ⟨x_t 441 rfl, x_t 3 rfl, fun h => absurd h (by decide), fun _ => ⟨x_t 439 rfl, Or.inr (x_t 440 rfl)⟩, by decide +kernel, by decide +kernel, by decide +kernel, by decide +kernel, by decide +kernel⟩
set_option maxRecDepth 30000 in
theorem x_me5 : x_meP (xE 5) := ⟨x_t 456 rfl, x_t 3 rfl, fun h => absurd h (by decide), fun _ => ⟨x_t 454 rfl, Or.inr (x_t 455 rfl)⟩, by decide +kernel, by decide +kernel, by decide +kernel, by decide +kernel, by decide +kernel⟩
set_option maxRecDepth 30000 in
theorem x_me6 : x_meP (xE 6) := ⟨x_t 266 rfl, x_t 8 rfl, fun h => absurd h (by decide), fun _ => ⟨x_t 265 rfl, Or.inl rfl⟩, by decide +kernel, by decide +kernel, by decide +kernel, by decide +kernel, by decide +kernel⟩
set_option maxRecDepth 30000 in
theorem x_me7 : x_meP (xE 7) := ⟨x_t 740 rfl, x_t 8 rfl, fun h => absurd h (by decide), fun _ => ⟨x_t 739 rfl, Or.inr (x_s 41 rfl)⟩, by decide +kernel, by decide +kernel, by decide +kernel, by decide +kernel, by decide +kernel⟩
set_option maxRecDepth 30000 in
theorem x_me8 : x_meP (xE 8) := ⟨x_t 752 rfl, x_t 8 rfl, fun h => absurd h (by decide), fun _ => ⟨x_t 750 rfl, Or.inr (x_t 751 rfl)⟩, by decide +kernel, by decide +kernel, by decide +kernel, by decide +kernel, by decide +kernel⟩
set_option maxRecDepth 30000 in
theorem x_me9 : x_meP (xE 9) := ⟨x_t 748 rfl, x_t 8 rfl, fun h => absurd h (by decide), fun _ => ⟨x_t 747 rfl, Or.inr (x_s 42 rfl)⟩, by decide +kernel, by decide +kernel, by decide +kernel, by decide +kernel, by decide +kernel⟩
set_option maxRecDepth 30000 in
theorem x_me10 : x_meP (xE 10) := ⟨x_t 736 rfl, x_t 8 rfl, fun h => absurd h (by decide), fun _ => ⟨x_t 734 rfl, Or.inr (x_t 735 rfl)⟩, by decide +kernel, by decide +kernel, by decide +kernel, by decide +kernel, by decide +kernel⟩
set_option maxRecDepth 30000 in
theorem x_me11 : x_meP (xE 11) := ⟨x_t 762 rfl, x_t 8 rfl, fun h => absurd h (by decide), fun _ => ⟨x_t 760 rfl, Or.inr (x_t 761 rfl)⟩, by decide +kernel, by decide +kernel, by decide +kernel, by decide +kernel, by decide +kernel⟩
set_option maxRecDepth 30000 in
theorem x_me12 : x_meP (xE 12) := ⟨x_t 771 rfl, x_t 8 rfl, fun h => absurd h (by decide), fun _ => ⟨x_t 769 rfl, Or.inr (x_t 770 rfl)⟩, by decide +kernel, by decide +kernel, by decide +kernel, by decide +kernel, by decide +kernel⟩
set_option maxRecDepth 30000 in
theorem x_me13 : x_meP (xE 13) := ⟨x_t 779 rfl, x_t 8 rfl, fun h => absurd h (by decide), fun _ => ⟨x_t 777 rfl, Or.inr (x_t 778 rfl)⟩, by decide +kernel, by decide +kernel, by decide +kernel, by decide +kernel, by decide +kernel⟩
set_option maxRecDepth 30000 in
theorem x_me14 : x_meP (xE 14) := ⟨x_t 783 rfl, x_t 8 rfl, fun h => absurd h (by decide), fun _ => ⟨x_t 782 rfl, Or.inr (x_s 43 rfl)⟩, by decide +kernel, by decide +kernel, by decide +kernel, by decide +kernel, by decide +kernel⟩
set_option maxRecDepth 30000 in
theorem x_me15 : x_meP (xE 15) := ⟨x_t 787 rfl, x_t 8 rfl, fun h => absurd h (by decide), fun _ => ⟨x_t 785 rfl, Or.inr (x_t 786 rfl)⟩, by decide +kernel, by decide +kernel, by decide +kernel, by decide +kernel, by decide +kernel⟩
set_option maxRecDepth 30000 in
theorem x_me16 : x_meP (xE 16) := ⟨x_t 218 rfl, x_t 5 rfl, fun h => absurd h (by decide), fun _ => ⟨x_t 217 rfl, Or.inl rfl⟩, by decide +kernel, by decide +kernel, by decide +kernel, by decide +kernel, by decide +kernel⟩
set_option maxRecDepth 30000 in
theorem x_me17 : x_meP (xE 17) := ⟨x_t 478 rfl, x_t 5 rfl, fun h => absurd h (by decide), fun _ => ⟨x_t 476 rfl, Or.inr (x_t 477 rfl)⟩, by decide +kernel, by decide +kernel, by decide +kernel, by decide +kernel, by decide +kernel⟩
set_option maxRecDepth 30000 in
theorem x_me18 : x_meP (xE 18) := ⟨x_t 866 rfl, x_t 5 rfl, fun h => absurd h (by decide), fun _ => ⟨x_t 864 rfl, Or.inr (x_t 865 rfl)⟩, by decide +kernel, by decide +kernel, by decide +kernel, by decide +kernel, by decide +kernel⟩
set_option maxRecDepth 30000 in
theorem x_me19 : x_meP (xE 19) := ⟨x_t 888 rfl, x_t 5 rfl, fun h => absurd h (by decide), fun _ => ⟨x_t 886 rfl, Or.inr (x_t 887 rfl)⟩, by decide +kernel, by decide +kernel, by decide +kernel, by decide +kernel, by decide +kernel⟩
set_option maxRecDepth 30000 in
theorem x_me20 : x_meP (xE 20) := ⟨x_t 896 rfl, x_t 5 rfl, fun h => absurd h (by decide), fun _ => ⟨x_t 894 rfl, Or.inr (x_t 895 rfl)⟩, by decide +kernel, by decide +kernel, by decide +kernel, by decide +kernel, by decide +kernel⟩
set_option maxRecDepth 30000 in
theorem x_me21 : x_meP (xE 21) := ⟨x_t 904 rfl, x_t 5 rfl, fun h => absurd h (by decide), fun _ => ⟨x_t 902 rfl, Or.inr (x_t 903 rfl)⟩, by decide +kernel, by decide +kernel, by decide +kernel, by decide +kernel, by decide +kernel⟩
set_option maxRecDepth 30000 in
theorem x_me22 : x_meP (xE 22) := ⟨x_t 34 rfl, x_t 2 rfl, fun h => absurd h (by decide), fun _ => ⟨x_t 33 rfl, Or.inl rfl⟩, by decide +kernel, by decide +kernel, by decide +kernel, by decide +kernel, by decide +kernel⟩
set_option maxRecDepth 30000 in
theorem x_me23 : x_meP (xE 23) := ⟨x_t 325 rfl, x_t 2 rfl, fun h => absurd h (by decide), fun _ => ⟨x_t 323 rfl, Or.inr (x_t 324 rfl)⟩, by decide +kernel, by decide +kernel, by decide +kernel, by decide +kernel, by decide +kernel⟩
set_option maxRecDepth 30000 in
theorem x_me24 : x_meP (xE 24) := ⟨x_t 337 rfl, x_t 2 rfl, fun h => absurd h (by decide), fun _ => ⟨x_t 335 rfl, Or.inr (x_t 336 rfl)⟩, by decide +kernel, by decide +kernel, by decide +kernel, by decide +kernel, by decide +kernel⟩
set_option maxRecDepth 30000 in
theorem x_me25 : x_meP (xE 25) := ⟨x_t 369 rfl, x_t 2 rfl, fun h => absurd h (by decide), fun _ => ⟨x_t 368 rfl, Or.inr (x_s 6 rfl)⟩, by decide +kernel, by decide +kernel, by decide +kernel, by decide +kernel, by decide +kernel⟩
set_option maxRecDepth 30000 in
theorem x_me26 : x_meP (xE 26) := ⟨x_t 352 rfl, x_t 2 rfl, fun h => absurd h (by decide), fun _ => ⟨x_t 351 rfl, Or.inr (x_s 2 rfl)⟩, by decide +kernel, by decide +kernel, by decide +kernel, by decide +kernel, by decide +kernel⟩
set_option maxRecDepth 30000 in
theorem x_me27 : x_meP (xE 27) := ⟨x_t 356 rfl, x_t 2 rfl, fun h => absurd h (by decide), fun _ => ⟨x_t 355 rfl, Or.inr (x_s 3 rfl)⟩, by decide +kernel, by decide +kernel, by decide +kernel, by decide +kernel, by decide +kernel⟩
set_option maxRecDepth 30000 in
theorem x_me28 : x_meP (xE 28) := ⟨x_t 360 rfl, x_t 2 rfl, fun h => absurd h (by decide), fun _ => ⟨x_t 359 rfl, Or.inr (x_s 4 rfl)⟩, by decide +kernel, by decide +kernel, by decide +kernel, by decide +kernel, by decide +kernel⟩
set_option maxRecDepth 30000 in
theorem x_me29 : x_meP (xE 29) := ⟨x_t 365 rfl, x_t 2 rfl, fun h => absurd h (by decide), fun _ => ⟨x_t 364 rfl, Or.inr (x_s 5 rfl)⟩, by decide +kernel, by decide +kernel, by decide +kernel, by decide +kernel, by decide +kernel⟩
set_option maxRecDepth 30000 in
theorem x_me30 : x_meP (xE 30) := ⟨x_t 378 rfl, x_t 2 rfl, fun h => absurd h (by decide), fun _ => ⟨x_t 377 rfl, Or.inr (x_s 8 rfl)⟩, by decide +kernel, by decide +kernel, by decide +kernel, by decide +kernel, by decide +kernel⟩
set_option maxRecDepth 30000 in
theorem x_me31 : x_meP (xE 31) := ⟨x_t 382 rfl, x_t 2 rfl, fun h => absurd h (by decide), fun _ => ⟨x_t 381 rfl, Or.inr (x_s 9 rfl)⟩, by decide +kernel, by decide +kernel, by decide +kernel, by decide +kernel, by decide +kernel⟩
set_option maxRecDepth 30000 in
theorem x_me32 : x_meP (xE 32) := ⟨x_t 396 rfl, x_t 2 rfl, fun h => absurd h (by decide), fun _ => ⟨x_t 395 rfl, Or.inr (x_s 11 rfl)⟩, by decide +kernel, by decide +kernel, by decide +kernel, by decide +kernel, by decide +kernel⟩
set_option maxRecDepth 30000 in
theorem x_me33 : x_meP (xE 33) := ⟨x_t 401 rfl, x_t 2 rfl, fun h => absurd h (by decide), fun _ => ⟨x_t 400 rfl, Or.inr (x_s 12 rfl)⟩, by decide +kernel, by decide +kernel, by decide +kernel, by decide +kernel, by decide +kernel⟩
set_option maxRecDepth 30000 in
theorem x_me34 : x_meP (xE 34) := ⟨x_t 423 rfl, x_t 2 rfl, fun h => absurd h (by decide), fun _ => ⟨x_t 422 rfl, Or.inr (x_s 16 rfl)⟩, by decide +kernel, by decide +kernel, by decide +kernel, by decide +kernel, by decide +kernel⟩
set_option maxRecDepth 30000 in
theorem x_me35 : x_meP (xE 35) := ⟨x_t 419 rfl, x_t 2 rfl, fun h => absurd h (by decide), fun _ => ⟨x_t 418 rfl, Or.inr (x_s 15 rfl)⟩, by decide +kernel, by decide +kernel, by decide +kernel, by decide +kernel, by decide +kernel⟩
set_option maxRecDepth 30000 in
theorem x_me36 : x_meP (xE 36) := ⟨x_t 348 rfl, x_t 2 rfl, fun h => absurd h (by decide), fun _ => ⟨x_t 347 rfl, Or.inr (x_s 1 rfl)⟩, by decide +kernel, by decide +kernel, by decide +kernel, by decide +kernel, by decide +kernel⟩
set_option maxRecDepth 30000 in
theorem x_me37 : x_meP (xE 37) := ⟨x_t 373 rfl, x_t 2 rfl, fun h => absurd h (by decide), fun _ => ⟨x_t 372 rfl, Or.inr (x_s 7 rfl)⟩, by decide +kernel, by decide +kernel, by decide +kernel, by decide +kernel, by decide +kernel⟩
set_option maxRecDepth 30000 in
theorem x_me38 : x_meP (xE 38) := ⟨x_t 392 rfl, x_t 2 rfl, fun h => absurd h (by decide), fun _ => ⟨x_t 391 rfl, Or.inr (x_s 10 rfl)⟩, by decide +kernel, by decide +kernel, by decide +kernel, by decide +kernel, by decide +kernel⟩
set_option maxRecDepth 30000 in
theorem x_me39 : x_meP (xE 39) := ⟨x_t 405 rfl, x_t 2 rfl, fun h => absurd h (by decide), fun _ => ⟨x_t 404 rfl, Or.inr (x_s 13 rfl)⟩, by decide +kernel, by decide +kernel, by decide +kernel, by decide +kernel, by decide +kernel⟩
set_option maxRecDepth 30000 in
theorem x_me40 : x_meP (xE 40) := ⟨x_t 415 rfl, x_t 2 rfl, fun h => absurd h (by decide), fun _ => ⟨x_t 414 rfl, Or.inr (x_s 14 rfl)⟩, by decide +kernel, by decide +kernel, by decide +kernel, by decide +kernel, by decide +kernel⟩
set_option maxRecDepth 30000 in
theorem x_me41 : x_meP (xE 41) := ⟨x_t 434 rfl, x_t 2 rfl, fun h => absurd h (by decide), fun _ => ⟨x_t 433 rfl, Or.inr (x_s 18 rfl)⟩, by decide +kernel, by decide +kernel, by decide +kernel, by decide +kernel, by decide +kernel⟩
set_option maxRecDepth 30000 in
theorem x_me42 : x_meP (xE 42) := ⟨x_t 430 rfl, x_t 2 rfl, fun h => absurd h (by decide), fun _ => ⟨x_t 429 rfl, Or.inr (x_s 17 rfl)⟩, by decide +kernel, by decide +kernel, by decide +kernel, by decide +kernel, by decide +kernel⟩
set_option maxRecDepth 30000 in
theorem x_me43 : x_meP (xE 43) := ⟨x_t 447 rfl, x_t 2 rfl, fun h => absurd h (by decide), fun _ => ⟨x_t 446 rfl, Or.inr (x_s 19 rfl)⟩, by decide +kernel, by decide +kernel, by decide +kernel, by decide +kernel, by decide +kernel⟩
set_option maxRecDepth 30000 in
theorem x_me44 : x_meP (xE 44) := ⟨x_t 452 rfl, x_t 2 rfl, fun h => absurd h (by decide), fun _ => ⟨x_t 451 rfl, Or.inr (x_s 20 rfl)⟩, by decide +kernel, by decide +kernel, by decide +kernel, by decide +kernel, by decide +kernel⟩
set_option maxRecDepth 30000 in
theorem x_me45 : x_meP (xE 45) := ⟨x_t 183 rfl, x_t 4 rfl, fun h => absurd h (by decide), fun _ => ⟨x_t 182 rfl, Or.inl rfl⟩, by decide +kernel, by decide +kernel, by decide +kernel, by decide +kernel, by decide +kernel⟩
set_option maxRecDepth 30000 in
theorem x_me46 : x_meP (xE 46) := ⟨x_t 469 rfl, x_t 4 rfl, fun h => absurd h (by decide), fun _ => ⟨x_t 467 rfl, Or.inr (x_t 468 rfl)⟩, by decide +kernel, by decide +kernel, by decide +kernel, by decide +kernel, by decide +kernel⟩
set_option maxRecDepth 30000 in
theorem x_me47 : x_meP (xE 47) := ⟨x_t 675 rfl, x_t 4 rfl, fun h => absurd h (by decide), fun _ => ⟨x_t 673 rfl, Or.inr (x_t 674 rfl)⟩, by decide +kernel, by decide +kernel, by decide +kernel, by decide +kernel, by decide +kernel⟩
set_option maxRecDepth 30000 in
theorem x_me48 : x_meP (xE 48) := ⟨x_t 498 rfl, x_t 4 rfl, fun h => absurd h (by decide), fun _ => ⟨x_t 496 rfl, Or.inr (x_t 497 rfl)⟩, by decide +kernel, by decide +kernel, by decide +kernel, by decide +kernel, by decide +kernel⟩
set_option maxRecDepth 30000 in
theorem x_me49 : x_meP (xE 49) := ⟨x_t 679 rfl, x_t 4 rfl, fun h => absurd h (by decide), fun _ => ⟨x_t 677 rfl, Or.inr (x_t 678 rfl)⟩, by decide +kernel, by decide +kernel, by decide +kernel, by decide +kernel, by decide +kernel⟩
set_option maxRecDepth 30000 in
theorem x_me50 : x_meP (xE 50) := ⟨x_t 840 rfl, x_t 4 rfl, fun h => absurd h (by decide), fun _ => ⟨x_t 838 rfl, Or.inr (x_t 839 rfl)⟩, by decide +kernel, by decide +kernel, by decide +kernel, by decide +kernel, by decide +kernel⟩
set_option maxRecDepth 30000 in
theorem x_me51 : x_meP (xE 51) := ⟨x_t 845 rfl, x_t 4 rfl, fun h => absurd h (by decide), fun _ => ⟨x_t 843 rfl, Or.inr (x_t 844 rfl)⟩, by decide +kernel, by decide +kernel, by decide +kernel, by decide +kernel, by decide +kernel⟩
set_option maxRecDepth 30000 in
theorem x_me52 : x_meP (xE 52) := ⟨x_t 256 rfl, x_t 7 rfl, fun h => absurd h (by decide), fun _ => ⟨x_t 255 rfl, Or.inl rfl⟩, by decide +kernel, by decide +kernel, by decide +kernel, by decide +kernel, by decide +kernel⟩
set_option maxRecDepth 30000 in
theorem x_me53 : x_meP (xE 53) := ⟨x_t 697 rfl, x_t 7 rfl, fun h => absurd h (by decide), fun _ => ⟨x_t 695 rfl, Or.inr (x_t 696 rfl)⟩, by decide +kernel, by decide +kernel, by decide +kernel, by decide +kernel, by decide +kernel⟩
set_option maxRecDepth 30000 in
theorem x_me54 : x_meP (xE 54) := ⟨x_t 702 rfl, x_t 7 rfl, fun h => absurd h (by decide), fun _ => ⟨x_t 701 rfl, Or.inr (x_s 39 rfl)⟩, by decide +kernel, by decide +kernel, by decide +kernel, by decide +kernel, by decide +kernel⟩
set_option maxRecDepth 30000 in
theorem x_me55 : x_meP (xE 55) := ⟨x_t 708 rfl, x_t 7 rfl, fun h => absurd h (by decide), fun _ => ⟨x_t 706 rfl, Or.inr (x_t 707 rfl)⟩, by decide +kernel, by decide +kernel, by decide +kernel, by decide +kernel, by decide +kernel⟩
set_option maxRecDepth 30000 in
theorem x_me56 : x_meP (xE 56) := ⟨x_t 245 rfl, x_t 6 rfl, fun h => absurd h (by decide), fun _ => ⟨x_t 244 rfl, Or.inl rfl⟩, by decide +kernel, by decide +kernel, by decide +kernel, by decide +kernel, by decide +kernel⟩
set_option maxRecDepth 30000 in
theorem x_me57 : x_meP (xE 57) := ⟨x_t 533 rfl, x_t 6 rfl, fun h => absurd h (by decide), fun _ => ⟨x_t 531 rfl, Or.inr (x_t 532 rfl)⟩, by decide +kernel, by decide +kernel, by decide +kernel, by decide +kernel, by decide +kernel⟩
set_option maxRecDepth 30000 in
theorem x_me58 : x_meP (xE 58) := ⟨x_t 537 rfl, x_t 6 rfl, fun _ => x_t 536 rfl, fun h => absurd h (by decide), by decide +kernel, by decide +kernel, by decide +kernel, by decide +kernel, by decide +kernel⟩
set_option maxRecDepth 30000 in
theorem x_me59 : x_meP (xE 59) := ⟨x_t 559 rfl, x_t 6 rfl, fun h => absurd h (by decide), fun _ => ⟨x_t 557 rfl, Or.inr (x_t 558 rfl)⟩, by decide +kernel, by decide +kernel, by decide +kernel, by decide +kernel, by decide +kernel⟩
set_option maxRecDepth 30000 in
theorem x_me60 : x_meP (xE 60) := ⟨x_t 611 rfl, x_t 6 rfl, fun h => absurd h (by decide), fun _ => ⟨x_t 609 rfl, Or.inr (x_t 610 rfl)⟩, by decide +kernel, by decide +kernel, by decide +kernel, by decide +kernel, by decide +kernel⟩
set_option maxRecDepth 30000 in
theorem x_me61 : x_meP (xE 61) := ⟨x_t 652 rfl, x_t 6 rfl, fun h => absurd h (by decide), fun _ => ⟨x_t 650 rfl, Or.inr (x_t 651 rfl)⟩, by decide +kernel, by decide +kernel, by decide +kernel, by decide +kernel, by decide +kernel⟩
set_option maxRecDepth 30000 in
theorem x_me62 : x_meP (xE 62) := ⟨x_t 599 rfl, x_t 6 rfl, fun h => absurd h (by decide), fun _ => ⟨x_t 597 rfl, Or.inr (x_t 598 rfl)⟩, by decide +kernel, by decide +kernel, by decide +kernel, by decide +kernel, by decide +kernel⟩
set_option maxRecDepth 30000 in
theorem x_me63 : x_meP (xE 63) := ⟨x_t 26 rfl, x_t 1 rfl, fun h => absurd h (by decide), fun _ => ⟨x_t 25 rfl, Or.inl rfl⟩, by decide +kernel, by decide +kernel, by decide +kernel, by decide +kernel, by decide +kernel⟩
set_option maxRecDepth 30000 in
theorem x_me64 : x_meP (xE 64) := ⟨x_t 321 rfl, x_t 1 rfl, fun h => absurd h (by decide), fun _ => ⟨x_t 319 rfl, Or.inr (x_t 320 rfl)⟩, by decide +kernel, by decide +kernel, by decide +kernel, by decide +kernel, by decide +kernel⟩
set_option maxRecDepth 30000 in
theorem x_me65 : x_meP (xE 65) := ⟨x_t 329 rfl, x_t 1 rfl, fun h => absurd h (by decide), fun _ => ⟨x_t 327 rfl, Or.inr (x_t 328 rfl)⟩, by decide +kernel, by decide +kernel, by decide +kernel, by decide +kernel, by decide +kernel⟩
set_option maxRecDepth 30000 in
theorem x_me66 : x_meP (xE 66) := ⟨x_t 482 rfl, x_t 1 rfl, fun h => absurd h (by decide), fun _ => ⟨x_t 480 rfl, Or.inr (x_t 481 rfl)⟩, by decide +kernel, by decide +kernel, by decide +kernel, by decide +kernel, by decide +kernel⟩
set_option maxRecDepth 30000 in
theorem x_me67 : x_meP (xE 67) := ⟨x_t 486 rfl, x_t 1 rfl, fun h => absurd h (by decide), fun _ => ⟨x_t 484 rfl, Or.inr (x_t 485 rfl)⟩, by decide +kernel, by decide +kernel, by decide +kernel, by decide +kernel, by decide +kernel⟩
set_option maxRecDepth 30000 in
theorem x_me68 : x_meP (xE 68) := ⟨x_t 490 rfl, x_t 1 rfl, fun h => absurd h (by decide), fun _ => ⟨x_t 488 rfl, Or.inr (x_t 489 rfl)⟩, by decide +kernel, by decide +kernel, by decide +kernel, by decide +kernel, by decide +kernel⟩
set_option maxRecDepth 30000 in
theorem x_me69 : x_meP (xE 69) := ⟨x_t 512 rfl, x_t 1 rfl, fun h => absurd h (by decide), fun _ => ⟨x_t 510 rfl, Or.inr (x_t 511 rfl)⟩, by decide +kernel, by decide +kernel, by decide +kernel, by decide +kernel, by decide +kernel⟩
set_option maxRecDepth 30000 in
theorem x_me70 : x_meP (xE 70) := ⟨x_t 521 rfl, x_t 1 rfl, fun h => absurd h (by decide), fun _ => ⟨x_t 519 rfl, Or.inr (x_t 520 rfl)⟩, by decide +kernel, by decide +kernel, by decide +kernel, by decide +kernel, by decide +kernel⟩
set_option maxRecDepth 30000 in
theorem x_me71 : x_meP (xE 71) := ⟨x_t 542 rfl, x_t 1 rfl, fun h => absurd h (by decide), fun _ => ⟨x_t 540 rfl, Or.inr (x_t 541 rfl)⟩, by decide +kernel, by decide +kernel, by decide +kernel, by decide +kernel, by decide +kernel⟩
set_option maxRecDepth 30000 in
theorem x_me72 : x_meP (xE 72) := ⟨x_t 550 rfl, x_t 1 rfl, fun h => absurd h (by decide), fun _ => ⟨x_t 548 rfl, Or.inr (x_t 549 rfl)⟩, by decide +kernel, by decide +kernel, by decide +kernel, by decide +kernel, by decide +kernel⟩
set_option maxRecDepth 30000 in
theorem x_me73 : x_meP (xE 73) := ⟨x_t 563 rfl, x_t 1 rfl, fun h => absurd h (by decide), fun _ => ⟨x_t 561 rfl, Or.inr (x_t 562 rfl)⟩, by decide +kernel, by decide +kernel, by decide +kernel, by decide +kernel, by decide +kernel⟩
set_option maxRecDepth 30000 in
theorem x_me74 : x_meP (xE 74) := ⟨x_t 571 rfl, x_t 1 rfl, fun h => absurd h (by decide), fun _ => ⟨x_t 569 rfl, Or.inr (x_t 570 rfl)⟩, by decide +kernel, by decide +kernel, by decide +kernel, by decide +kernel, by decide +kernel⟩
set_option maxRecDepth 30000 in
theorem x_me75 : x_meP (xE 75) := ⟨x_t 579 rfl, x_t 1 rfl, fun h => absurd h (by decide), fun _ => ⟨x_t 577 rfl, Or.inr (x_t 578 rfl)⟩, by decide +kernel, by decide +kernel, by decide +kernel, by decide +kernel, by decide +kernel⟩
set_option maxRecDepth 30000 in
theorem x_me76 : x_meP (xE 76) := ⟨x_t 587 rfl, x_t 1 rfl, fun h => absurd h (by decide), fun _ => ⟨x_t 585 rfl, Or.inr (x_t 586 rfl)⟩, by decide +kernel, by decide +kernel, by decide +kernel, by decide +kernel, by decide +kernel⟩
set_option maxRecDepth 30000 in
theorem x_me77 : x_meP (xE 77) := ⟨x_t 591 rfl, x_t 1 rfl, fun h => absurd h (by decide), fun _ => ⟨x_t 589 rfl, Or.inr (x_t 590 rfl)⟩, by decide +kernel, by decide +kernel, by decide +kernel, by decide +kernel, by decide +kernel⟩
set_option maxRecDepth 30000 in
theorem x_me78 : x_meP (xE 78) := ⟨x_t 595 rfl, x_t 1 rfl, fun h => absurd h (by decide), fun _ => ⟨x_t 593 rfl, Or.inr (x_t 594 rfl)⟩, by decide +kernel, by decide +kernel, by decide +kernel, by decide +kernel, by decide +kernel⟩
set_option maxRecDepth 30000 in
theorem x_me79 : x_meP (xE 79) := ⟨x_t 603 rfl, x_t 1 rfl, fun h => absurd h (by decide), fun _ => ⟨x_t 601 rfl, Or.inr (x_t 602 rfl)⟩, by decide +kernel, by decide +kernel, by decide +kernel, by decide +kernel, by decide +kernel⟩
set_option maxRecDepth 30000 in
theorem x_me80 : x_meP (xE 80) := ⟨x_t 607 rfl, x_t 1 rfl, fun h => absurd h (by decide), fun _ => ⟨x_t 605 rfl, Or.inr (x_t 606 rfl)⟩, by decide +kernel, by decide +kernel, by decide +kernel, by decide +kernel, by decide +kernel⟩
set_option maxRecDepth 30000 in
theorem x_me81 : x_meP (xE 81) := ⟨x_t 615 rfl, x_t 1 rfl, fun h => absurd h (by decide), fun _ => ⟨x_t 613 rfl, Or.inr (x_t 614 rfl)⟩, by decide +kernel, by decide +kernel, by decide +kernel, by decide +kernel, by decide +kernel⟩
set_option maxRecDepth 30000 in
theorem x_me82 : x_meP (xE 82) := ⟨x_t 636 rfl, x_t 1 rfl, fun h => absurd h (by decide), fun _ => ⟨x_t 634 rfl, Or.inr (x_t 635 rfl)⟩, by decide +kernel, by decide +kernel, by decide +kernel, by decide +kernel, by decide +kernel⟩
set_option maxRecDepth 30000 in
theorem x_me83 : x_meP (xE 83) := ⟨x_t 644 rfl, x_t 1 rfl, fun h => absurd h (by decide), fun _ => ⟨x_t 642 rfl, Or.inr (x_t 643 rfl)⟩, by decide +kernel, by decide +kernel, by decide +kernel, by decide +kernel, by decide +kernel⟩
set_option maxRecDepth 30000 in
theorem x_me84 : x_meP (xE 84) := ⟨x_t 648 rfl, x_t 1 rfl, fun h => absurd h (by decide), fun _ => ⟨x_t 646 rfl, Or.inr (x_t 647 rfl)⟩, by decide +kernel, by decide +kernel, by decide +kernel, by decide +kernel, by decide +kernel⟩
set_option maxRecDepth 30000 in
theorem x_me85 : x_meP (xE 85) := ⟨x_t 656 rfl, x_t 1 rfl, fun h => absurd h (by decide), fun _ => ⟨x_t 654 rfl, Or.inr (x_t 655 rfl)⟩, by decide +kernel, by decide +kernel, by decide +kernel, by decide +kernel, by decide +kernel⟩
set_option maxRecDepth 30000 in
theorem x_me86 : x_meP (xE 86) := ⟨x_t 685 rfl, x_t 1 rfl, fun h => absurd h (by decide), fun _ => ⟨x_t 683 rfl, Or.inr (x_t 684 rfl)⟩, by decide +kernel, by decide +kernel, by decide +kernel, by decide +kernel, by decide +kernel⟩
set_option maxRecDepth 30000 in
theorem x_me87 : x_meP (xE 87) := ⟨x_t 689 rfl, x_t 1 rfl, fun h => absurd h (by decide), fun _ => ⟨x_t 687 rfl, Or.inr (x_t 688 rfl)⟩, by decide +kernel, by decide +kernel, by decide +kernel, by decide +kernel, by decide +kernel⟩
set_option maxRecDepth 30000 in
theorem x_me88 : x_meP (xE 88) := ⟨x_t 716 rfl, x_t 1 rfl, fun h => absurd h (by decide), fun _ => ⟨x_t 714 rfl, Or.inr (x_t 715 rfl)⟩, by decide +kernel, by decide +kernel, by decide +kernel, by decide +kernel, by decide +kernel⟩
set_option maxRecDepth 30000 in
theorem x_me89 : x_meP (xE 89) := ⟨x_t 720 rfl, x_t 1 rfl, fun h => absurd h (by decide), fun _ => ⟨x_t 718 rfl, Or.inr (x_t 719 rfl)⟩, by decide +kernel, by decide +kernel, by decide +kernel, by decide +kernel, by decide +kernel⟩
set_option maxRecDepth 30000 in
theorem x_me90 : x_meP (xE 90) := ⟨x_t 724 rfl, x_t 1 rfl, fun h => absurd h (by decide), fun _ => ⟨x_t 722 rfl, Or.inr (x_t 723 rfl)⟩, by decide +kernel, by decide +kernel, by decide +kernel, by decide +kernel, by decide +kernel⟩
set_option maxRecDepth 30000 in
theorem x_me91 : x_meP (xE 91) := ⟨x_t 728 rfl, x_t 1 rfl, fun h => absurd h (by decide), fun _ => ⟨x_t 726 rfl, Or.inr (x_t 727 rfl)⟩, by decide +kernel, by decide +kernel, by decide +kernel, by decide +kernel, by decide +kernel⟩
set_option maxRecDepth 30000 in
theorem x_me92 : x_meP (xE 92) := ⟨x_t 732 rfl, x_t 1 rfl, fun h => absurd h (by decide), fun _ => ⟨x_t 730 rfl, Or.inr (x_t 731 rfl)⟩, by decide +kernel, by decide +kernel, by decide +kernel, by decide +kernel, by decide +kernel⟩
set_option maxRecDepth 30000 in
theorem x_me93 : x_meP (xE 93) := ⟨x_t 758 rfl, x_t 1 rfl, fun h => absurd h (by decide), fun _ => ⟨x_t 756 rfl, Or.inr (x_t 757 rfl)⟩, by decide +kernel, by decide +kernel, by decide +kernel, by decide +kernel, by decide +kernel⟩
set_option maxRecDepth 30000 in
theorem x_me94 : x_meP (xE 94) := ⟨x_t 767 rfl, x_t 1 rfl, fun h => absurd h (by decide), fun _ => ⟨x_t 765 rfl, Or.inr (x_t 766 rfl)⟩, by decide +kernel, by decide +kernel, by decide +kernel, by decide +kernel, by decide +kernel⟩
set_option maxRecDepth 30000 in
theorem x_me95 : x_meP (xE 95) := ⟨x_t 775 rfl, x_t 1 rfl, fun h => absurd h (by decide), fun _ => ⟨x_t 773 rfl, Or.inr (x_t 774 rfl)⟩, by decide +kernel, by decide +kernel, by decide +kernel, by decide +kernel, by decide +kernel⟩
set_option maxRecDepth 30000 in
theorem x_me96 : x_meP (xE 96) := ⟨x_t 791 rfl, x_t 1 rfl, fun h => absurd h (by decide), fun _ => ⟨x_t 789 rfl, Or.inr (x_t 790 rfl)⟩, by decide +kernel, by decide +kernel, by decide +kernel, by decide +kernel, by decide +kernel⟩
set_option maxRecDepth 30000 in
theorem x_me97 : x_meP (xE 97) := ⟨x_t 796 rfl, x_t 1 rfl, fun h => absurd h (by decide), fun _ => ⟨x_t 794 rfl, Or.inr (x_t 795 rfl)⟩, by decide +kernel, by decide +kernel, by decide +kernel, by decide +kernel, by decide +kernel⟩
set_option maxRecDepth 30000 in
theorem x_me98 : x_meP (xE 98) := ⟨x_t 801 rfl, x_t 1 rfl, fun h => absurd h (by decide), fun _ => ⟨x_t 799 rfl, Or.inr (x_t 800 rfl)⟩, by decide +kernel, by decide +kernel, by decide +kernel, by decide +kernel, by decide +kernel⟩
set_option maxRecDepth 30000 in
theorem x_me99 : x_meP (xE 99) := ⟨x_t 812 rfl, x_t 1 rfl, fun h => absurd h (by decide), fun _ => ⟨x_t 810 rfl, Or.inr (x_t 811 rfl)⟩, by decide +kernel, by decide +kernel, by decide +kernel, by decide +kernel, by decide +kernel⟩
set_option maxRecDepth 30000 in
theorem x_me100 : x_meP (xE 100) := ⟨x_t 819 rfl, x_t 1 rfl, fun h => absurd h (by decide), fun _ => ⟨x_t 817 rfl, Or.inr (x_t 818 rfl)⟩, by decide +kernel, by decide +kernel, by decide +kernel, by decide +kernel, by decide +kernel⟩
set_option maxRecDepth 30000 in
theorem x_me101 : x_meP (xE 101) := ⟨x_t 823 rfl, x_t 1 rfl, fun h => absurd h (by decide), fun _ => ⟨x_t 821 rfl, Or.inr (x_t 822 rfl)⟩, by decide +kernel, by decide +kernel, by decide +kernel, by decide +kernel, by decide +kernel⟩
set_option maxRecDepth 30000 in
theorem x_me102 : x_meP (xE 102) := ⟨x_t 850 rfl, x_t 1 rfl, fun h => absurd h (by decide), fun _ => ⟨x_t 848 rfl, Or.inr (x_t 849 rfl)⟩, by decide +kernel, by decide +kernel, by decide +kernel, by decide +kernel, by decide +kernel⟩
set_option maxRecDepth 30000 in
theorem x_me103 : x_meP (xE 103) := ⟨x_t 854 rfl, x_t 1 rfl, fun h => absurd h (by decide), fun _ => ⟨x_t 852 rfl, Or.inr (x_t 853 rfl)⟩, by decide +kernel, by decide +kernel, by decide +kernel, by decide +kernel, by decide +kernel⟩
set_option maxRecDepth 30000 in
theorem x_me104 : x_meP (xE 104) := ⟨x_t 858 rfl, x_t 1 rfl, fun h => absurd h (by decide), fun _ => ⟨x_t 856 rfl, Or.inr (x_t 857 rfl)⟩, by decide +kernel, by decide +kernel, by decide +kernel, by decide +kernel, by decide +kernel⟩
set_option maxRecDepth 30000 in
theorem x_me105 : x_meP (xE 105) := ⟨x_t 872 rfl, x_t 1 rfl, fun h => absurd h (by decide), fun _ => ⟨x_t 870 rfl, Or.inr (x_t 871 rfl)⟩, by decide +kernel, by decide +kernel, by decide +kernel, by decide +kernel, by decide +kernel⟩
set_option maxRecDepth 30000 in
theorem x_me106 : x_meP (xE 106) := ⟨x_t 876 rfl, x_t 1 rfl, fun h => absurd h (by decide), fun _ => ⟨x_t 874 rfl, Or.inr (x_t 875 rfl)⟩, by decide +kernel, by decide +kernel, by decide +kernel, by decide +kernel, by decide +kernel⟩
set_option maxRecDepth 30000 in
theorem x_me107 : x_meP (xE 107) := ⟨x_t 880 rfl, x_t 1 rfl, fun h => absurd h (by decide), fun _ => ⟨x_t 878 rfl, Or.inr (x_t 879 rfl)⟩, by decide +kernel, by decide +kernel, by decide +kernel, by decide +kernel, by decide +kernel⟩
set_option maxRecDepth 30000 in
theorem x_me108 : x_meP (xE 108) := ⟨x_t 884 rfl, x_t 1 rfl, fun h => absurd h (by decide), fun _ => ⟨x_t 882 rfl, Or.inr (x_t 883 rfl)⟩, by decide +kernel, by decide +kernel, by decide +kernel, by decide +kernel, by decide +kernel⟩
set_option maxRecDepth 30000 in
theorem x_me109 : x_meP (xE 109) := ⟨x_t 892 rfl, x_t 1 rfl, fun h => absurd h (by decide), fun _ => ⟨x_t 890 rfl, Or.inr (x_t 891 rfl)⟩, by decide +kernel, by decide +kernel, by decide +kernel, by decide +kernel, by decide +kernel⟩
set_option maxRecDepth 30000 in
theorem x_me110 : x_meP (xE 110) := ⟨x_t 900 rfl, x_t 1 rfl, fun h => absurd h (by decide), fun _ => ⟨x_t 898 rfl, Or.inr (x_t 899 rfl)⟩, by decide +kernel, by decide +kernel, by decide +kernel, by decide +kernel, by decide +kernel⟩
set_option maxRecDepth 30000 in
theorem x_me111 : x_meP (xE 111) := ⟨x_t 926 rfl, x_t 1 rfl, fun h => absurd h (by decide), fun _ => ⟨x_t 924 rfl, Or.inr (x_t 925 rfl)⟩, by decide +kernel, by decide +kernel, by decide +kernel, by decide +kernel, by decide +kernel⟩
set_option maxRecDepth 30000 in
theorem x_me112 : x_meP (xE 112) := ⟨x_t 908 rfl, x_t 1 rfl, fun h => absurd h (by decide), fun _ => ⟨x_t 906 rfl, Or.inr (x_t 907 rfl)⟩, by decide +kernel, by decide +kernel, by decide +kernel, by decide +kernel, by decide +kernel⟩
set_option maxRecDepth 30000 in
theorem x_me113 : x_meP (xE 113) := ⟨x_t 918 rfl, x_t 1 rfl, fun h => absurd h (by decide), fun _ => ⟨x_t 916 rfl, Or.inr (x_t 917 rfl)⟩, by decide +kernel, by decide +kernel, by decide +kernel, by decide +kernel, by decide +kernel⟩
set_option maxRecDepth 30000 in
theorem x_me114 : x_meP (xE 114) := ⟨x_t 333 rfl, x_t 1 rfl, fun h => absurd h (by decide), fun _ => ⟨x_t 332 rfl, Or.inr (x_s 0 rfl)⟩, by decide +kernel, by decide +kernel, by decide +kernel, by decide +kernel, by decide +kernel⟩
set_option maxRecDepth 30000 in
theorem x_me115 : x_meP (xE 115) := ⟨x_t 567 rfl, x_t 1 rfl, fun h => absurd h (by decide), fun _ => ⟨x_t 566 rfl, Or.inr (x_s 29 rfl)⟩, by decide +kernel, by decide +kernel, by decide +kernel, by decide +kernel, by decide +kernel⟩
set_option maxRecDepth 30000 in
theorem x_me116 : x_meP (xE 116) := ⟨x_t 494 rfl, x_t 1 rfl, fun h => absurd h (by decide), fun _ => ⟨x_t 493 rfl, Or.inr (x_s 21 rfl)⟩, by decide +kernel, by decide +kernel, by decide +kernel, by decide +kernel, by decide +kernel⟩
set_option maxRecDepth 30000 in
theorem x_me117 : x_meP (xE 117) := ⟨x_t 516 rfl, x_t 1 rfl, fun h => absurd h (by decide), fun _ => ⟨x_t 515 rfl, Or.inr (x_s 24 rfl)⟩, by decide +kernel, by decide +kernel, by decide +kernel, by decide +kernel, by decide +kernel⟩
set_option maxRecDepth 30000 in
theorem x_me118 : x_meP (xE 118) := ⟨x_t 583 rfl, x_t 1 rfl, fun h => absurd h (by decide), fun _ => ⟨x_t 582 rfl, Or.inr (x_s 31 rfl)⟩, by decide +kernel, by decide +kernel, by decide +kernel, by decide +kernel, by decide +kernel⟩
set_option maxRecDepth 30000 in
theorem x_me119 : x_meP (xE 119) := ⟨x_t 525 rfl, x_t 1 rfl, fun h => absurd h (by decide), fun _ => ⟨x_t 524 rfl, Or.inr (x_s 25 rfl)⟩, by decide +kernel, by decide +kernel, by decide +kernel, by decide +kernel, by decide +kernel⟩
set_option maxRecDepth 30000 in
theorem x_me120 : x_meP (xE 120) := ⟨x_t 660 rfl, x_t 1 rfl, fun h => absurd h (by decide), fun _ => ⟨x_t 659 rfl, Or.inr (x_s 35 rfl)⟩, by decide +kernel, by decide +kernel, by decide +kernel, by decide +kernel, by decide +kernel⟩
set_option maxRecDepth 30000 in
theorem x_me121 : x_meP (xE 121) := ⟨x_t 805 rfl, x_t 1 rfl, fun h => absurd h (by decide), fun _ => ⟨x_t 804 rfl, Or.inr (x_s 44 rfl)⟩, by decide +kernel, by decide +kernel, by decide +kernel, by decide +kernel, by decide +kernel⟩
set_option maxRecDepth 30000 in
theorem x_me122 : x_meP (xE 122) := ⟨x_t 827 rfl, x_t 1 rfl, fun h => absurd h (by decide), fun _ => ⟨x_t 826 rfl, Or.inr (x_s 45 rfl)⟩, by decide +kernel, by decide +kernel, by decide +kernel, by decide +kernel, by decide +kernel⟩
set_option maxRecDepth 30000 in
theorem x_me123 : x_meP (xE 123) := ⟨x_t 862 rfl, x_t 1 rfl, fun h => absurd h (by decide), fun _ => ⟨x_t 861 rfl, Or.inr (x_s 48 rfl)⟩, by decide +kernel, by decide +kernel, by decide +kernel, by decide +kernel, by decide +kernel⟩
set_option maxRecDepth 30000 in
theorem x_me124 : x_meP (xE 124) := ⟨x_t 426 rfl, x_t 1 rfl, fun _ => x_t 425 rfl, fun h => absurd h (by decide), by decide +kernel, by decide +kernel, by decide +kernel, by decide +kernel, by decide +kernel⟩
set_option maxRecDepth 30000 in
theorem x_me125 : x_meP (xE 125) := ⟨x_t 437 rfl, x_t 1 rfl, fun _ => x_t 436 rfl, fun h => absurd h (by decide), by decide +kernel, by decide +kernel, by decide +kernel, by decide +kernel, by decide +kernel⟩
set_option maxRecDepth 30000 in
theorem x_me126 : x_meP (xE 126) := ⟨x_t 503 rfl, x_t 1 rfl, fun h => absurd h (by decide), fun _ => ⟨x_t 502 rfl, Or.inr (x_s 22 rfl)⟩, by decide +kernel, by decide +kernel, by decide +kernel, by decide +kernel, by decide +kernel⟩
set_option maxRecDepth 30000 in
theorem x_me127 : x_meP (xE 127) := ⟨x_t 508 rfl, x_t 1 rfl, fun h => absurd h (by decide), fun _ => ⟨x_t 507 rfl, Or.inr (x_s 23 rfl)⟩, by decide +kernel, by decide +kernel, by decide +kernel, by decide +kernel, by decide +kernel⟩
set_option maxRecDepth 30000 in
theorem x_me128 : x_meP (xE 128) := ⟨x_t 575 rfl, x_t 1 rfl, fun h => absurd h (by decide), fun _ => ⟨x_t 574 rfl, Or.inr (x_s 30 rfl)⟩, by decide +kernel, by decide +kernel, by decide +kernel, by decide +kernel, by decide +kernel⟩
set_option maxRecDepth 30000 in
theorem x_me129 : x_meP (xE 129) := ⟨x_t 529 rfl, x_t 1 rfl, fun h => absurd h (by decide), fun _ => ⟨x_t 528 rfl, Or.inr (x_s 26 rfl)⟩, by decide +kernel, by decide +kernel, by decide +kernel, by decide +kernel, by decide +kernel⟩
set_option maxRecDepth 30000 in
theorem x_me130 : x_meP (xE 130) := ⟨x_t 546 rfl, x_t 1 rfl, fun h => absurd h (by decide), fun _ => ⟨x_t 545 rfl, Or.inr (x_s 27 rfl)⟩, by decide +kernel, by decide +kernel, by decide +kernel, by decide +kernel, by decide +kernel⟩
set_option maxRecDepth 30000 in
theorem x_me131 : x_meP (xE 131) := ⟨x_t 554 rfl, x_t 1 rfl, fun h => absurd h (by decide), fun _ => ⟨x_t 553 rfl, Or.inr (x_s 28 rfl)⟩, by decide +kernel, by decide +kernel, by decide +kernel, by decide +kernel, by decide +kernel⟩
set_option maxRecDepth 30000 in
theorem x_me132 : x_meP (xE 132) := ⟨x_t 624 rfl, x_t 1 rfl, fun h => absurd h (by decide), fun _ => ⟨x_t 623 rfl, Or.inr (x_s 33 rfl)⟩, by decide +kernel, by decide +kernel, by decide +kernel, by decide +kernel, by decide +kernel⟩
set_option maxRecDepth 30000 in
theorem x_me133 : x_meP (xE 133) := ⟨x_t 620 rfl, x_t 1 rfl, fun h => absurd h (by decide), fun _ => ⟨x_t 619 rfl, Or.inr (x_s 32 rfl)⟩, by decide +kernel, by decide +kernel, by decide +kernel, by decide +kernel, by decide +kernel⟩
set_option maxRecDepth 30000 in
theorem x_me134 : x_meP (xE 134) := ⟨x_t 640 rfl, x_t 1 rfl, fun h => absurd h (by decide), fun _ => ⟨x_t 639 rfl, Or.inr (x_s 34 rfl)⟩, by decide +kernel, by decide +kernel, by decide +kernel, by decide +kernel, by decide +kernel⟩
set_option maxRecDepth 30000 in
theorem x_me135 : x_meP (xE 135) := ⟨x_t 628 rfl, x_t 1 rfl, fun _ => x_t 627 rfl, fun h => absurd h (by decide), by decide +kernel, by decide +kernel, by decide +kernel, by decide +kernel, by decide +kernel⟩
set_option maxRecDepth 30000 in
theorem x_me136 : x_meP (xE 136) := ⟨x_t 632 rfl, x_t 1 rfl, fun _ => x_t 631 rfl, fun h => absurd h (by decide), by decide +kernel, by decide +kernel, by decide +kernel, by decide +kernel, by decide +kernel⟩
set_option maxRecDepth 30000 in
theorem x_me137 : x_meP (xE 137) := ⟨x_t 664 rfl, x_t 1 rfl, fun h => absurd h (by decide), fun _ => ⟨x_t 663 rfl, Or.inr (x_s 36 rfl)⟩, by decide +kernel, by decide +kernel, by decide +kernel, by decide +kernel, by decide +kernel⟩
set_option maxRecDepth 30000 in
theorem x_me138 : x_meP (xE 138) := ⟨x_t 667 rfl, x_t 1 rfl, fun _ => x_t 666 rfl, fun h => absurd h (by decide), by decide +kernel, by decide +kernel, by decide +kernel, by decide +kernel, by decide +kernel⟩
set_option maxRecDepth 30000 in
theorem x_me139 : x_meP (xE 139) := ⟨x_t 671 rfl, x_t 1 rfl, fun h => absurd h (by decide), fun _ => ⟨x_t 670 rfl, Or.inr (x_s 37 rfl)⟩, by decide +kernel, by decide +kernel, by decide +kernel, by decide +kernel, by decide +kernel⟩
set_option maxRecDepth 30000 in
theorem x_me140 : x_meP (xE 140) := ⟨x_t 693 rfl, x_t 1 rfl, fun h => absurd h (by decide), fun _ => ⟨x_t 692 rfl, Or.inr (x_s 38 rfl)⟩, by decide +kernel, by decide +kernel, by decide +kernel, by decide +kernel, by decide +kernel⟩
set_option maxRecDepth 30000 in
theorem x_me141 : x_meP (xE 141) := ⟨x_t 712 rfl, x_t 1 rfl, fun h => absurd h (by decide), fun _ => ⟨x_t 711 rfl, Or.inr (x_s 40 rfl)⟩, by decide +kernel, by decide +kernel, by decide +kernel, by decide +kernel, by decide +kernel⟩
set_option maxRecDepth 30000 in
theorem x_me142 : x_meP (xE 142) := ⟨x_t 808 rfl, x_t 1 rfl, fun _ => x_t 807 rfl, fun h => absurd h (by decide), by decide +kernel, by decide +kernel, by decide +kernel, by decide +kernel, by decide +kernel⟩
set_option maxRecDepth 30000 in
theorem x_me143 : x_meP (xE 143) := ⟨x_t 815 rfl, x_t 1 rfl, fun _ => x_t 814 rfl, fun h => absurd h (by decide), by decide +kernel, by decide +kernel, by decide +kernel, by decide +kernel, by decide +kernel⟩
set_option maxRecDepth 30000 in
theorem x_me144 : x_meP (xE 144) := ⟨x_t 832 rfl, x_t 1 rfl, fun h => absurd h (by decide), fun _ => ⟨x_t 831 rfl, Or.inr (x_s 46 rfl)⟩, by decide +kernel, by decide +kernel, by decide +kernel, by decide +kernel, by decide +kernel⟩
set_option maxRecDepth 30000 in
theorem x_me145 : x_meP (xE 145) := ⟨x_t 836 rfl, x_t 1 rfl, fun h => absurd h (by decide), fun _ => ⟨x_t 835 rfl, Or.inr (x_s 47 rfl)⟩, by decide +kernel, by decide +kernel, by decide +kernel, by decide +kernel, by decide +kernel⟩
set_option maxRecDepth 30000 in
theorem x_me146 : x_meP (xE 146) := ⟨x_t 1126 rfl, x_t 12 rfl, fun h => absurd h (by decide), fun _ => ⟨x_t 1125 rfl, Or.inl rfl⟩, by decide +kernel, by decide +kernel, by decide +kernel, by decide +kernel, by decide +kernel⟩
set_option maxRecDepth 30000 in
theorem x_me147 : x_meP (xE 147) := ⟨x_t 1309 rfl, x_t 12 rfl, fun h => absurd h (by decide), fun _ => ⟨x_t 1307 rfl, Or.inr (x_t 1308 rfl)⟩, by decide +kernel, by decide +kernel, by decide +kernel, by decide +kernel, by decide +kernel⟩
set_option maxRecDepth 30000 in
theorem x_me148 : x_meP (xE 148) := ⟨x_t 1338 rfl, x_t 12 rfl, fun h => absurd h (by decide), fun _ => ⟨x_t 1336 rfl, Or.inr (x_t 1337 rfl)⟩, by decide +kernel, by decide +kernel, by decide +kernel, by decide +kernel, by decide +kernel⟩
set_option maxRecDepth 30000 in
theorem x_me149 : x_meP (xE 149) := ⟨x_t 992 rfl, x_t 9 rfl, fun h => absurd h (by decide), fun _ => ⟨x_t 991 rfl, Or.inl rfl⟩, by decide +kernel, by decide +kernel, by decide +kernel, by decide +kernel, by decide +kernel⟩
set_option maxRecDepth 30000 in
theorem x_me150 : x_meP (xE 150) := ⟨x_t 1109 rfl, x_t 9 rfl, fun h => absurd h (by decide), fun _ => ⟨x_t 1107 rfl, Or.inr (x_t 1108 rfl)⟩, by decide +kernel, by decide +kernel, by decide +kernel, by decide +kernel, by decide +kernel⟩
set_option maxRecDepth 30000 in
theorem x_me151 : x_meP (xE 151) := ⟨x_t 1121 rfl, x_t 9 rfl, fun h => absurd h (by decide), fun _ => ⟨x_t 1120 rfl, Or.inr (x_s 50 rfl)⟩, by decide +kernel, by decide +kernel, by decide +kernel, by decide +kernel, by decide +kernel⟩
set_option maxRecDepth 30000 in
theorem x_me152 : x_meP (xE 152) := ⟨x_t 1633 rfl, x_t 9 rfl, fun h => absurd h (by decide), fun _ => ⟨x_t 1632 rfl, Or.inr (x_s 103 rfl)⟩, by decide +kernel, by decide +kernel, by decide +kernel, by decide +kernel, by decide +kernel⟩
set_option maxRecDepth 30000 in
theorem x_me153 : x_meP (xE 153) := ⟨x_t 1710 rfl, x_t 9 rfl, fun h => absurd h (by decide), fun _ => ⟨x_t 1709 rfl, Or.inr (x_s 110 rfl)⟩, by decide +kernel, by decide +kernel, by decide +kernel, by decide +kernel, by decide +kernel⟩
set_option maxRecDepth 30000 in
theorem x_me154 : x_meP (xE 154) := ⟨x_t 1361 rfl, x_t 9 rfl, fun h => absurd h (by decide), fun _ => ⟨x_t 1360 rfl, Or.inr (x_s 70 rfl)⟩, by decide +kernel, by decide +kernel, by decide +kernel, by decide +kernel, by decide +kernel⟩
set_option maxRecDepth 30000 in
theorem x_me155 : x_meP (xE 155) := ⟨x_t 1714 rfl, x_t 9 rfl, fun h => absurd h (by decide), fun _ => ⟨x_t 1713 rfl, Or.inr (x_s 111 rfl)⟩, by decide +kernel, by decide +kernel, by decide +kernel, by decide +kernel, by decide +kernel⟩
set_option maxRecDepth 30000 in
theorem x_me156 : x_meP (xE 156) := ⟨x_t 1286 rfl, x_t 9 rfl, fun _ => x_t 1285 rfl, fun h => absurd h (by decide), by decide +kernel, by decide +kernel, by decide +kernel, by decide +kernel, by decide +kernel⟩
set_option maxRecDepth 30000 in
theorem x_me157 : x_meP (xE 157) := ⟨x_t 1326 rfl, x_t 9 rfl, fun _ => x_t 1325 rfl, fun h => absurd h (by decide), by decide +kernel, by decide +kernel, by decide +kernel, by decide +kernel, by decide +kernel⟩
set_option maxRecDepth 30000 in
theorem x_me158 : x_meP (xE 158) := ⟨x_t 1488 rfl, x_t 9 rfl, fun _ => x_t 1487 rfl, fun h => absurd h (by decide), by decide +kernel, by decide +kernel, by decide +kernel, by decide +kernel, by decide +kernel⟩
set_option maxRecDepth 30000 in
theorem x_me159 : x_meP (xE 159) := ⟨x_t 1512 rfl, x_t 9 rfl, fun _ => x_t 1511 rfl, fun h => absurd h (by decide), by decide +kernel, by decide +kernel, by decide +kernel, by decide +kernel, by decide +kernel⟩
set_option maxRecDepth 30000 in
theorem x_me160 : x_meP (xE 160) := ⟨x_t 1509 rfl, x_t 9 rfl, fun h => absurd h (by decide), fun _ => ⟨x_t 1508 rfl, Or.inr (x_s 90 rfl)⟩, by decide +kernel, by decide +kernel, by decide +kernel, by decide +kernel, by decide +kernel⟩
set_option maxRecDepth 30000 in
theorem x_me161 : x_meP (xE 161) := ⟨x_t 1199 rfl, x_t 9 rfl, fun h => absurd h (by decide), fun _ => ⟨x_t 1198 rfl, Or.inr (x_s 52 rfl)⟩, by decide +kernel, by decide +kernel, by decide +kernel, by decide +kernel, by decide +kernel⟩
set_option maxRecDepth 30000 in
theorem x_me162 : x_meP (xE 162) := ⟨x_t 1202 rfl, x_t 9 rfl, fun _ => x_t 1201 rfl, fun h => absurd h (by decide), by decide +kernel, by decide +kernel, by decide +kernel, by decide +kernel, by decide +kernel⟩
set_option maxRecDepth 30000 in
theorem x_me163 : x_meP (xE 163) := ⟨x_t 1206 rfl, x_t 9 rfl, fun _ => x_t 1205 rfl, fun h => absurd h (by decide), by decide +kernel, by decide +kernel, by decide +kernel, by decide +kernel, by decide +kernel⟩
set_option maxRecDepth 30000 in
theorem x_me164 : x_meP (xE 164) := ⟨x_t 1222 rfl, x_t 9 rfl, fun _ => x_t 1221 rfl, fun h => absurd h (by decide), by decide +kernel, by decide +kernel, by decide +kernel, by decide +kernel, by decide +kernel⟩
set_option maxRecDepth 30000 in
theorem x_me165 : x_meP (xE 165) := ⟨x_t 1195 rfl, x_t 9 rfl, fun h => absurd h (by decide), fun _ => ⟨x_t 1194 rfl, Or.inr (x_s 51 rfl)⟩, by decide +kernel, by decide +kernel, by decide +kernel, by decide +kernel, by decide +kernel⟩
set_option maxRecDepth 30000 in
theorem x_me166 : x_meP (xE 166) := ⟨x_t 1278 rfl, x_t 9 rfl, fun h => absurd h (by decide), fun _ => ⟨x_t 1277 rfl, Or.inr (x_s 57 rfl)⟩, by decide +kernel, by decide +kernel, by decide +kernel, by decide +kernel, by decide +kernel⟩
set_option maxRecDepth 30000 in
theorem x_me167 : x_meP (xE 167) := ⟨x_t 1219 rfl, x_t 9 rfl, fun h => absurd h (by decide), fun _ => ⟨x_t 1218 rfl, Or.inr (x_s 55 rfl)⟩, by decide +kernel, by decide +kernel, by decide +kernel, by decide +kernel, by decide +kernel⟩
set_option maxRecDepth 30000 in
theorem x_me168 : x_meP (xE 168) := ⟨x_t 1353 rfl, x_t 9 rfl, fun h => absurd h (by decide), fun _ => ⟨x_t 1352 rfl, Or.inr (x_s 68 rfl)⟩, by decide +kernel, by decide +kernel, by decide +kernel, by decide +kernel, by decide +kernel⟩
set_option maxRecDepth 30000 in
theorem x_me169 : x_meP (xE 169) := ⟨x_t 1283 rfl, x_t 9 rfl, fun h => absurd h (by decide), fun _ => ⟨x_t 1282 rfl, Or.inr (x_s 58 rfl)⟩, by decide +kernel, by decide +kernel, by decide +kernel, by decide +kernel, by decide +kernel⟩
set_option maxRecDepth 30000 in
theorem x_me170 : x_meP (xE 170) := ⟨x_t 1300 rfl, x_t 9 rfl, fun h => absurd h (by decide), fun _ => ⟨x_t 1299 rfl, Or.inr (x_s 61 rfl)⟩, by decide +kernel, by decide +kernel, by decide +kernel, by decide +kernel, by decide +kernel⟩
set_option maxRecDepth 30000 in
theorem x_me171 : x_meP (xE 171) := ⟨x_t 1296 rfl, x_t 9 rfl, fun h => absurd h (by decide), fun _ => ⟨x_t 1295 rfl, Or.inr (x_s 60 rfl)⟩, by decide +kernel, by decide +kernel, by decide +kernel, by decide +kernel, by decide +kernel⟩
set_option maxRecDepth 30000 in
theorem x_me172 : x_meP (xE 172) := ⟨x_t 1323 rfl, x_t 9 rfl, fun h => absurd h (by decide), fun _ => ⟨x_t 1322 rfl, Or.inr (x_s 63 rfl)⟩, by decide +kernel, by decide +kernel, by decide +kernel, by decide +kernel, by decide +kernel⟩
set_option maxRecDepth 30000 in
theorem x_me173 : x_meP (xE 173) := ⟨x_t 1210 rfl, x_t 9 rfl, fun h => absurd h (by decide), fun _ => ⟨x_t 1209 rfl, Or.inr (x_s 53 rfl)⟩, by decide +kernel, by decide +kernel, by decide +kernel, by decide +kernel, by decide +kernel⟩
set_option maxRecDepth 30000 in
theorem x_me174 : x_meP (xE 174) := ⟨x_t 1214 rfl, x_t 9 rfl, fun h => absurd h (by decide), fun _ => ⟨x_t 1213 rfl, Or.inr (x_s 54 rfl)⟩, by decide +kernel, by decide +kernel, by decide +kernel, by decide +kernel, by decide +kernel⟩
set_option maxRecDepth 30000 in
theorem x_me175 : x_meP (xE 175) := ⟨x_t 1274 rfl, x_t 9 rfl, fun h => absurd h (by decide), fun _ => ⟨x_t 1273 rfl, Or.inr (x_s 56 rfl)⟩, by decide +kernel, by decide +kernel, by decide +kernel, by decide +kernel, by decide +kernel⟩
set_option maxRecDepth 30000 in
theorem x_me176 : x_meP (xE 176) := ⟨x_t 1292 rfl, x_t 9 rfl, fun h => absurd h (by decide), fun _ => ⟨x_t 1291 rfl, Or.inr (x_s 59 rfl)⟩, by decide +kernel, by decide +kernel, by decide +kernel, by decide +kernel, by decide +kernel⟩
set_option maxRecDepth 30000 in
theorem x_me177 : x_meP (xE 177) := ⟨x_t 1319 rfl, x_t 9 rfl, fun h => absurd h (by decide), fun _ => ⟨x_t 1318 rfl, Or.inr (x_s 62 rfl)⟩, by decide +kernel, by decide +kernel, by decide +kernel, by decide +kernel, by decide +kernel⟩
set_option maxRecDepth 30000 in
theorem x_me178 : x_meP (xE 178) := ⟨x_t 1334 rfl, x_t 9 rfl, fun h => absurd h (by decide), fun _ => ⟨x_t 1333 rfl, Or.inr (x_s 65 rfl)⟩, by decide +kernel, by decide +kernel, by decide +kernel, by decide +kernel, by decide +kernel⟩
set_option maxRecDepth 30000 in
theorem x_me179 : x_meP (xE 179) := ⟨x_t 1330 rfl, x_t 9 rfl, fun h => absurd h (by decide), fun _ => ⟨x_t 1329 rfl, Or.inr (x_s 64 rfl)⟩, by decide +kernel, by decide +kernel, by decide +kernel, by decide +kernel, by decide +kernel⟩
set_option maxRecDepth 30000 in
theorem x_me180 : x_meP (xE 180) := ⟨x_t 1344 rfl, x_t 9 rfl, fun h => absurd h (by decide), fun _ => ⟨x_t 1343 rfl, Or.inr (x_s 66 rfl)⟩, by decide +kernel, by decide +kernel, by decide +kernel, by decide +kernel, by decide +kernel⟩
set_option maxRecDepth 30000 in
theorem x_me181 : x_meP (xE 181) := ⟨x_t 1349 rfl, x_t 9 rfl, fun h => absurd h (by decide), fun _ => ⟨x_t 1348 rfl, Or.inr (x_s 67 rfl)⟩, by decide +kernel, by decide +kernel, by decide +kernel, by decide +kernel, by decide +kernel⟩
set_option maxRecDepth 30000 in
theorem x_me182 : x_meP (xE 182) := ⟨x_t 1113 rfl, x_t 9 rfl, fun h => absurd h (by decide), fun _ => ⟨x_t 1111 rfl, Or.inr (x_t 1112 rfl)⟩, by decide +kernel, by decide +kernel, by decide +kernel, by decide +kernel, by decide +kernel⟩
set_option maxRecDepth 30000 in
theorem x_me183 : x_meP (xE 183) := ⟨x_t 1117 rfl, x_t 9 rfl, fun h => absurd h (by decide), fun _ => ⟨x_t 1115 rfl, Or.inr (x_t 1116 rfl)⟩, by decide +kernel, by decide +kernel, by decide +kernel, by decide +kernel, by decide +kernel⟩
set_option maxRecDepth 30000 in
theorem x_me184 : x_meP (xE 184) := ⟨x_t 1365 rfl, x_t 9 rfl, fun h => absurd h (by decide), fun _ => ⟨x_t 1363 rfl, Or.inr (x_t 1364 rfl)⟩, by decide +kernel, by decide +kernel, by decide +kernel, by decide +kernel, by decide +kernel⟩
set_option maxRecDepth 30000 in
theorem x_me185 : x_meP (xE 185) := ⟨x_t 1369 rfl, x_t 9 rfl, fun h => absurd h (by decide), fun _ => ⟨x_t 1367 rfl, Or.inr (x_t 1368 rfl)⟩, by decide +kernel, by decide +kernel, by decide +kernel, by decide +kernel, by decide +kernel⟩
set_option maxRecDepth 30000 in
theorem x_me186 : x_meP (xE 186) := ⟨x_t 1377 rfl, x_t 9 rfl, fun h => absurd h (by decide), fun _ => ⟨x_t 1376 rfl, Or.inr (x_s 71 rfl)⟩, by decide +kernel, by decide +kernel, by decide +kernel, by decide +kernel, by decide +kernel⟩
set_option maxRecDepth 30000 in
theorem x_me187 : x_meP (xE 187) := ⟨x_t 1397 rfl, x_t 9 rfl, fun h => absurd h (by decide), fun _ => ⟨x_t 1396 rfl, Or.inr (x_s 75 rfl)⟩, by decide +kernel, by decide +kernel, by decide +kernel, by decide +kernel, by decide +kernel⟩
set_option maxRecDepth 30000 in
theorem x_me188 : x_meP (xE 188) := ⟨x_t 1409 rfl, x_t 9 rfl, fun h => absurd h (by decide), fun _ => ⟨x_t 1408 rfl, Or.inr (x_s 77 rfl)⟩, by decide +kernel, by decide +kernel, by decide +kernel, by decide +kernel, by decide +kernel⟩
set_option maxRecDepth 30000 in
theorem x_me189 : x_meP (xE 189) := ⟨x_t 1357 rfl, x_t 9 rfl, fun h => absurd h (by decide), fun _ => ⟨x_t 1356 rfl, Or.inr (x_s 69 rfl)⟩, by decide +kernel, by decide +kernel, by decide +kernel, by decide +kernel, by decide +kernel⟩
set_option maxRecDepth 30000 in
theorem x_me190 : x_meP (xE 190) := ⟨x_t 1417 rfl, x_t 9 rfl, fun h => absurd h (by decide), fun _ => ⟨x_t 1416 rfl, Or.inr (x_s 79 rfl)⟩, by decide +kernel, by decide +kernel, by decide +kernel, by decide +kernel, by decide +kernel⟩
set_option maxRecDepth 30000 in
theorem x_me191 : x_meP (xE 191) := ⟨x_t 1421 rfl, x_t 9 rfl, fun h => absurd h (by decide), fun _ => ⟨x_t 1420 rfl, Or.inr (x_s 80 rfl)⟩, by decide +kernel, by decide +kernel, by decide +kernel, by decide +kernel, by decide +kernel⟩
set_option maxRecDepth 30000 in
theorem x_me192 : x_meP (xE 192) := ⟨x_t 1413 rfl, x_t 9 rfl, fun h => absurd h (by decide), fun _ => ⟨x_t 1412 rfl, Or.inr (x_s 78 rfl)⟩, by decide +kernel, by decide +kernel, by decide +kernel, by decide +kernel, by decide +kernel⟩
set_option maxRecDepth 30000 in
theorem x_me193 : x_meP (xE 193) := ⟨x_t 1433 rfl, x_t 9 rfl, fun h => absurd h (by decide), fun _ => ⟨x_t 1432 rfl, Or.inr (x_s 82 rfl)⟩, by decide +kernel, by decide +kernel, by decide +kernel, by decide +kernel, by decide +kernel⟩
set_option maxRecDepth 30000 in
theorem x_me194 : x_meP (xE 194) := ⟨x_t 1449 rfl, x_t 9 rfl, fun h => absurd h (by decide), fun _ => ⟨x_t 1448 rfl, Or.inr (x_s 85 rfl)⟩, by decide +kernel, by decide +kernel, by decide +kernel, by decide +kernel, by decide +kernel⟩
set_option maxRecDepth 30000 in
theorem x_me195 : x_meP (xE 195) := ⟨x_t 1445 rfl, x_t 9 rfl, fun h => absurd h (by decide), fun _ => ⟨x_t 1444 rfl, Or.inr (x_s 84 rfl)⟩, by decide +kernel, by decide +kernel, by decide +kernel, by decide +kernel, by decide +kernel⟩
set_option maxRecDepth 30000 in
theorem x_me196 : x_meP (xE 196) := ⟨x_t 1674 rfl, x_t 9 rfl, fun h => absurd h (by decide), fun _ => ⟨x_t 1673 rfl, Or.inr (x_s 107 rfl)⟩, by decide +kernel, by decide +kernel, by decide +kernel, by decide +kernel, by decide +kernel⟩
set_option maxRecDepth 30000 in
theorem x_me197 : x_meP (xE 197) := ⟨x_t 1429 rfl, x_t 9 rfl, fun h => absurd h (by decide), fun _ => ⟨x_t 1428 rfl, Or.inr (x_s 81 rfl)⟩, by decide +kernel, by decide +kernel, by decide +kernel, by decide +kernel, by decide +kernel⟩
set_option maxRecDepth 30000 in
theorem x_me198 : x_meP (xE 198) := ⟨x_t 1381 rfl, x_t 9 rfl, fun h => absurd h (by decide), fun _ => ⟨x_t 1380 rfl, Or.inr (x_s 72 rfl)⟩, by decide +kernel, by decide +kernel, by decide +kernel, by decide +kernel, by decide +kernel⟩
set_option maxRecDepth 30000 in
theorem x_me199 : x_meP (xE 199) := ⟨x_t 1385 rfl, x_t 9 rfl, fun h => absurd h (by decide), fun _ => ⟨x_t 1384 rfl, Or.inr (x_s 73 rfl)⟩, by decide +kernel, by decide +kernel, by decide +kernel, by decide +kernel, by decide +kernel⟩
set_option maxRecDepth 30000 in
theorem x_me200 : x_meP (xE 200) := ⟨x_t 1389 rfl, x_t 9 rfl, fun h => absurd h (by decide), fun _ => ⟨x_t 1388 rfl, Or.inr (x_s 74 rfl)⟩, by decide +kernel, by decide +kernel, by decide +kernel, by decide +kernel, by decide +kernel⟩
set_option maxRecDepth 30000 in
theorem x_me201 : x_meP (xE 201) := ⟨x_t 1373 rfl, x_t 9 rfl, fun h => absurd h (by decide), fun _ => ⟨x_t 1371 rfl, Or.inr (x_t 1372 rfl)⟩, by decide +kernel, by decide +kernel, by decide +kernel, by decide +kernel, by decide +kernel⟩
set_option maxRecDepth 30000 in
theorem x_me202 : x_meP (xE 202) := ⟨x_t 1393 rfl, x_t 9 rfl, fun h => absurd h (by decide), fun _ => ⟨x_t 1391 rfl, Or.inr (x_t 1392 rfl)⟩, by decide +kernel, by decide +kernel, by decide +kernel, by decide +kernel, by decide +kernel⟩
set_option maxRecDepth 30000 in
theorem x_me203 : x_meP (xE 203) := ⟨x_t 1405 rfl, x_t 9 rfl, fun h => absurd h (by decide), fun _ => ⟨x_t 1404 rfl, Or.inr (x_s 76 rfl)⟩, by decide +kernel, by decide +kernel, by decide +kernel, by decide +kernel, by decide +kernel⟩
set_option maxRecDepth 30000 in
theorem x_me204 : x_meP (xE 204) := ⟨x_t 1401 rfl, x_t 9 rfl, fun h => absurd h (by decide), fun _ => ⟨x_t 1399 rfl, Or.inr (x_t 1400 rfl)⟩, by decide +kernel, by decide +kernel, by decide +kernel, by decide +kernel, by decide +kernel⟩
set_option maxRecDepth 30000 in
theorem x_me205 : x_meP (xE 205) := ⟨x_t 1437 rfl, x_t 9 rfl, fun h => absurd h (by decide), fun _ => ⟨x_t 1436 rfl, Or.inr (x_s 83 rfl)⟩, by decide +kernel, by decide +kernel, by decide +kernel, by decide +kernel, by decide +kernel⟩
set_option maxRecDepth 30000 in
theorem x_me206 : x_meP (xE 206) := ⟨x_t 1425 rfl, x_t 9 rfl, fun h => absurd h (by decide), fun _ => ⟨x_t 1423 rfl, Or.inr (x_t 1424 rfl)⟩, by decide +kernel, by decide +kernel, by decide +kernel, by decide +kernel, by decide +kernel⟩
set_option maxRecDepth 30000 in
theorem x_me207 : x_meP (xE 207) := ⟨x_t 1441 rfl, x_t 9 rfl, fun h => absurd h (by decide), fun _ => ⟨x_t 1439 rfl, Or.inr (x_t 1440 rfl)⟩, by decide +kernel, by decide +kernel, by decide +kernel, by decide +kernel, by decide +kernel⟩
set_option maxRecDepth 30000 in
theorem x_me208 : x_meP (xE 208) := ⟨x_t 1453 rfl, x_t 9 rfl, fun h => absurd h (by decide), fun _ => ⟨x_t 1451 rfl, Or.inr (x_t 1452 rfl)⟩, by decide +kernel, by decide +kernel, by decide +kernel, by decide +kernel, by decide +kernel⟩
set_option maxRecDepth 30000 in
theorem x_me209 : x_meP (xE 209) := ⟨x_t 1457 rfl, x_t 9 rfl, fun h => absurd h (by decide), fun _ => ⟨x_t 1455 rfl, Or.inr (x_t 1456 rfl)⟩, by decide +kernel, by decide +kernel, by decide +kernel, by decide +kernel, by decide +kernel⟩
set_option maxRecDepth 30000 in
theorem x_me210 : x_meP (xE 210) := ⟨x_t 1465 rfl, x_t 9 rfl, fun h => absurd h (by decide), fun _ => ⟨x_t 1464 rfl, Or.inr (x_s 86 rfl)⟩, by decide +kernel, by decide +kernel, by decide +kernel, by decide +kernel, by decide +kernel⟩
set_option maxRecDepth 30000 in
theorem x_me211 : x_meP (xE 211) := ⟨x_t 1461 rfl, x_t 9 rfl, fun h => absurd h (by decide), fun _ => ⟨x_t 1459 rfl, Or.inr (x_t 1460 rfl)⟩, by decide +kernel, by decide +kernel, by decide +kernel, by decide +kernel, by decide +kernel⟩
set_option maxRecDepth 30000 in
theorem x_me212 : x_meP (xE 212) := ⟨x_t 1469 rfl, x_t 9 rfl, fun h => absurd h (by decide), fun _ => ⟨x_t 1467 rfl, Or.inr (x_t 1468 rfl)⟩, by decide +kernel, by decide +kernel, by decide +kernel, by decide +kernel, by decide +kernel⟩
set_option maxRecDepth 30000 in
theorem x_me213 : x_meP (xE 213) := ⟨x_t 1473 rfl, x_t 9 rfl, fun h => absurd h (by decide), fun _ => ⟨x_t 1471 rfl, Or.inr (x_t 1472 rfl)⟩, by decide +kernel, by decide +kernel, by decide +kernel, by decide +kernel, by decide +kernel⟩
set_option maxRecDepth 30000 in
theorem x_me214 : x_meP (xE 214) := ⟨x_t 1477 rfl, x_t 9 rfl, fun h => absurd h (by decide), fun _ => ⟨x_t 1475 rfl, Or.inr (x_t 1476 rfl)⟩, by decide +kernel, by decide +kernel, by decide +kernel, by decide +kernel, by decide +kernel⟩
set_option maxRecDepth 30000 in
theorem x_me215 : x_meP (xE 215) := ⟨x_t 1481 rfl, x_t 9 rfl, fun h => absurd h (by decide), fun _ => ⟨x_t 1479 rfl, Or.inr (x_t 1480 rfl)⟩, by decide +kernel, by decide +kernel, by decide +kernel, by decide +kernel, by decide +kernel⟩
set_option maxRecDepth 30000 in
theorem x_me216 : x_meP (xE 216) := ⟨x_t 1485 rfl, x_t 9 rfl, fun h => absurd h (by decide), fun _ => ⟨x_t 1483 rfl, Or.inr (x_t 1484 rfl)⟩, by decide +kernel, by decide +kernel, by decide +kernel, by decide +kernel, by decide +kernel⟩
set_option maxRecDepth 30000 in
theorem x_me217 : x_meP (xE 217) := ⟨x_t 1505 rfl, x_t 9 rfl, fun h => absurd h (by decide), fun _ => ⟨x_t 1504 rfl, Or.inr (x_s 89 rfl)⟩, by decide +kernel, by decide +kernel, by decide +kernel, by decide +kernel, by decide +kernel⟩
set_option maxRecDepth 30000 in
theorem x_me218 : x_meP (xE 218) := ⟨x_t 1500 rfl, x_t 9 rfl, fun h => absurd h (by decide), fun _ => ⟨x_t 1499 rfl, Or.inr (x_s 88 rfl)⟩, by decide +kernel, by decide +kernel, by decide +kernel, by decide +kernel, by decide +kernel⟩
set_option maxRecDepth 30000 in
theorem x_me219 : x_meP (xE 219) := ⟨x_t 1496 rfl, x_t 9 rfl, fun h => absurd h (by decide), fun _ => ⟨x_t 1495 rfl, Or.inr (x_s 87 rfl)⟩, by decide +kernel, by decide +kernel, by decide +kernel, by decide +kernel, by decide +kernel⟩
set_option maxRecDepth 30000 in
theorem x_me220 : x_meP (xE 220) := ⟨x_t 1492 rfl, x_t 9 rfl, fun h => absurd h (by decide), fun _ => ⟨x_t 1490 rfl, Or.inr (x_t 1491 rfl)⟩, by decide +kernel, by decide +kernel, by decide +kernel, by decide +kernel, by decide +kernel⟩
set_option maxRecDepth 30000 in
theorem x_me221 : x_meP (xE 221) := ⟨x_t 1516 rfl, x_t 9 rfl, fun h => absurd h (by decide), fun _ => ⟨x_t 1514 rfl, Or.inr (x_t 1515 rfl)⟩, by decide +kernel, by decide +kernel, by decide +kernel, by decide +kernel, by decide +kernel⟩
set_option maxRecDepth 30000 in
theorem x_me222 : x_meP (xE 222) := ⟨x_t 1520 rfl, x_t 9 rfl, fun h => absurd h (by decide), fun _ => ⟨x_t 1518 rfl, Or.inr (x_t 1519 rfl)⟩, by decide +kernel, by decide +kernel, by decide +kernel, by decide +kernel, by decide +kernel⟩
set_option maxRecDepth 30000 in
theorem x_me223 : x_meP (xE 223) := ⟨x_t 1524 rfl, x_t 9 rfl, fun h => absurd h (by decide), fun _ => ⟨x_t 1522 rfl, Or.inr (x_t 1523 rfl)⟩, by decide +kernel, by decide +kernel, by decide +kernel, by decide +kernel, by decide +kernel⟩
set_option maxRecDepth 30000 in
theorem x_me224 : x_meP (xE 224) := ⟨x_t 1541 rfl, x_t 9 rfl, fun h => absurd h (by decide), fun _ => ⟨x_t 1540 rfl, Or.inr (x_s 93 rfl)⟩, by decide +kernel, by decide +kernel, by decide +kernel, by decide +kernel, by decide +kernel⟩
set_option maxRecDepth 30000 in
theorem x_me225 : x_meP (xE 225) := ⟨x_t 1536 rfl, x_t 9 rfl, fun h => absurd h (by decide), fun _ => ⟨x_t 1535 rfl, Or.inr (x_s 92 rfl)⟩, by decide +kernel, by decide +kernel, by decide +kernel, by decide +kernel, by decide +kernel⟩
set_option maxRecDepth 30000 in
theorem x_me226 : x_meP (xE 226) := ⟨x_t 1532 rfl, x_t 9 rfl, fun h => absurd h (by decide), fun _ => ⟨x_t 1531 rfl, Or.inr (x_s 91 rfl)⟩, by decide +kernel, by decide +kernel, by decide +kernel, by decide +kernel, by decide +kernel⟩
set_option maxRecDepth 30000 in
theorem x_me227 : x_meP (xE 227) := ⟨x_t 1528 rfl, x_t 9 rfl, fun h => absurd h (by decide), fun _ => ⟨x_t 1526 rfl, Or.inr (x_t 1527 rfl)⟩, by decide +kernel, by decide +kernel, by decide +kernel, by decide +kernel, by decide +kernel⟩
set_option maxRecDepth 30000 in
theorem x_me228 : x_meP (xE 228) := ⟨x_t 1545 rfl, x_t 9 rfl, fun h => absurd h (by decide), fun _ => ⟨x_t 1543 rfl, Or.inr (x_t 1544 rfl)⟩, by decide +kernel, by decide +kernel, by decide +kernel, by decide +kernel, by decide +kernel⟩
set_option maxRecDepth 30000 in
theorem x_me229 : x_meP (xE 229) := ⟨x_t 1557 rfl, x_t 9 rfl, fun h => absurd h (by decide), fun _ => ⟨x_t 1556 rfl, Or.inr (x_s 95 rfl)⟩, by decide +kernel, by decide +kernel, by decide +kernel, by decide +kernel, by decide +kernel⟩
set_option maxRecDepth 30000 in
theorem x_me230 : x_meP (xE 230) := ⟨x_t 1561 rfl, x_t 9 rfl, fun h => absurd h (by decide), fun _ => ⟨x_t 1560 rfl, Or.inr (x_s 96 rfl)⟩, by decide +kernel, by decide +kernel, by decide +kernel, by decide +kernel, by decide +kernel⟩
set_option maxRecDepth 30000 in
theorem x_me231 : x_meP (xE 231) := ⟨x_t 1553 rfl, x_t 9 rfl, fun h => absurd h (by decide), fun _ => ⟨x_t 1552 rfl, Or.inr (x_s 94 rfl)⟩, by decide +kernel, by decide +kernel, by decide +kernel, by decide +kernel, by decide +kernel⟩
set_option maxRecDepth 30000 in
theorem x_me232 : x_meP (xE 232) := ⟨x_t 1549 rfl, x_t 9 rfl, fun h => absurd h (by decide), fun _ => ⟨x_t 1547 rfl, Or.inr (x_t 1548 rfl)⟩, by decide +kernel, by decide +kernel, by decide +kernel, by decide +kernel, by decide +kernel⟩
set_option maxRecDepth 30000 in
theorem x_me233 : x_meP (xE 233) := ⟨x_t 1565 rfl, x_t 9 rfl, fun h => absurd h (by decide), fun _ => ⟨x_t 1563 rfl, Or.inr (x_t 1564 rfl)⟩, by decide +kernel, by decide +kernel, by decide +kernel, by decide +kernel, by decide +kernel⟩
set_option maxRecDepth 30000 in
theorem x_me234 : x_meP (xE 234) := ⟨x_t 1569 rfl, x_t 9 rfl, fun h => absurd h (by decide), fun _ => ⟨x_t 1567 rfl, Or.inr (x_t 1568 rfl)⟩, by decide +kernel, by decide +kernel, by decide +kernel, by decide +kernel, by decide +kernel⟩
set_option maxRecDepth 30000 in
theorem x_me235 : x_meP (xE 235) := ⟨x_t 1573 rfl, x_t 9 rfl, fun h => absurd h (by decide), fun _ => ⟨x_t 1571 rfl, Or.inr (x_t 1572 rfl)⟩, by decide +kernel, by decide +kernel, by decide +kernel, by decide +kernel, by decide +kernel⟩
set_option maxRecDepth 30000 in
theorem x_me236 : x_meP (xE 236) := ⟨x_t 1577 rfl, x_t 9 rfl, fun h => absurd h (by decide), fun _ => ⟨x_t 1575 rfl, Or.inr (x_t 1576 rfl)⟩, by decide +kernel, by decide +kernel, by decide +kernel, by decide +kernel, by decide +kernel⟩
set_option maxRecDepth 30000 in
theorem x_me237 : x_meP (xE 237) := ⟨x_t 1593 rfl, x_t 9 rfl, fun h => absurd h (by decide), fun _ => ⟨x_t 1592 rfl, Or.inr (x_s 99 rfl)⟩, by decide +kernel, by decide +kernel, by decide +kernel, by decide +kernel, by decide +kernel⟩
set_option maxRecDepth 30000 in
theorem x_me238 : x_meP (xE 238) := ⟨x_t 1589 rfl, x_t 9 rfl, fun h => absurd h (by decide), fun _ => ⟨x_t 1588 rfl, Or.inr (x_s 98 rfl)⟩, by decide +kernel, by decide +kernel, by decide +kernel, by decide +kernel, by decide +kernel⟩
set_option maxRecDepth 30000 in
theorem x_me239 : x_meP (xE 239) := ⟨x_t 1597 rfl, x_t 9 rfl, fun h => absurd h (by decide), fun _ => ⟨x_t 1596 rfl, Or.inr (x_s 100 rfl)⟩, by decide +kernel, by decide +kernel, by decide +kernel, by decide +kernel, by decide +kernel⟩
set_option maxRecDepth 30000 in
theorem x_me240 : x_meP (xE 240) := ⟨x_t 1585 rfl, x_t 9 rfl, fun h => absurd h (by decide), fun _ => ⟨x_t 1584 rfl, Or.inr (x_s 97 rfl)⟩, by decide +kernel, by decide +kernel, by decide +kernel, by decide +kernel, by decide +kernel⟩
set_option maxRecDepth 30000 in
theorem x_me241 : x_meP (xE 241) := ⟨x_t 1581 rfl, x_t 9 rfl, fun h => absurd h (by decide), fun _ => ⟨x_t 1579 rfl, Or.inr (x_t 1580 rfl)⟩, by decide +kernel, by decide +kernel, by decide +kernel, by decide +kernel, by decide +kernel⟩
set_option maxRecDepth 30000 in
theorem x_me242 : x_meP (xE 242) := ⟨x_t 1601 rfl, x_t 9 rfl, fun h => absurd h (by decide), fun _ => ⟨x_t 1599 rfl, Or.inr (x_t 1600 rfl)⟩, by decide +kernel, by decide +kernel, by decide +kernel, by decide +kernel, by decide +kernel⟩
set_option maxRecDepth 30000 in
theorem x_me243 : x_meP (xE 243) := ⟨x_t 1605 rfl, x_t 9 rfl, fun h => absurd h (by decide), fun _ => ⟨x_t 1603 rfl, Or.inr (x_t 1604 rfl)⟩, by decide +kernel, by decide +kernel, by decide +kernel, by decide +kernel, by decide +kernel⟩
set_option maxRecDepth 30000 in
theorem x_me244 : x_meP (xE 244) := ⟨x_t 1613 rfl, x_t 9 rfl, fun h => absurd h (by decide), fun _ => ⟨x_t 1612 rfl, Or.inr (x_s 101 rfl)⟩, by decide +kernel, by decide +kernel, by decide +kernel, by decide +kernel, by decide +kernel⟩
set_option maxRecDepth 30000 in
theorem x_me245 : x_meP (xE 245) := ⟨x_t 1609 rfl, x_t 9 rfl, fun h => absurd h (by decide), fun _ => ⟨x_t 1607 rfl, Or.inr (x_t 1608 rfl)⟩, by decide +kernel, by decide +kernel, by decide +kernel, by decide +kernel, by decide +kernel⟩
set_option maxRecDepth 30000 in
theorem x_me246 : x_meP (xE 246) := ⟨x_t 1617 rfl, x_t 9 rfl, fun h => absurd h (by decide), fun _ => ⟨x_t 1615 rfl, Or.inr (x_t 1616 rfl)⟩, by decide +kernel, by decide +kernel, by decide +kernel, by decide +kernel, by decide +kernel⟩
set_option maxRecDepth 30000 in
theorem x_me247 : x_meP (xE 247) := ⟨x_t 1621 rfl, x_t 9 rfl, fun h => absurd h (by decide), fun _ => ⟨x_t 1619 rfl, Or.inr (x_t 1620 rfl)⟩, by decide +kernel, by decide +kernel, by decide +kernel, by decide +kernel, by decide +kernel⟩
set_option maxRecDepth 30000 in
theorem x_me248 : x_meP (xE 248) := ⟨x_t 1639 rfl, x_t 9 rfl, fun _ => x_t 1638 rfl, fun h => absurd h (by decide), by decide +kernel, by decide +kernel, by decide +kernel, by decide +kernel, by decide +kernel⟩
set_option maxRecDepth 30000 in
theorem x_me249 : x_meP (xE 249) := ⟨x_t 1636 rfl, x_t 9 rfl, fun _ => x_t 1635 rfl, fun h => absurd h (by decide), by decide +kernel, by decide +kernel, by decide +kernel, by decide +kernel, by decide +kernel⟩
set_option maxRecDepth 30000 in
theorem x_me250 : x_meP (xE 250) := ⟨x_t 1629 rfl, x_t 9 rfl, fun h => absurd h (by decide), fun _ => ⟨x_t 1628 rfl, Or.inr (x_s 102 rfl)⟩, by decide +kernel, by decide +kernel, by decide +kernel, by decide +kernel, by decide +kernel⟩
set_option maxRecDepth 30000 in
theorem x_me251 : x_meP (xE 251) := ⟨x_t 1625 rfl, x_t 9 rfl, fun h => absurd h (by decide), fun _ => ⟨x_t 1623 rfl, Or.inr (x_t 1624 rfl)⟩, by decide +kernel, by decide +kernel, by decide +kernel, by decide +kernel, by decide +kernel⟩
set_option maxRecDepth 30000 in
theorem x_me252 : x_meP (xE 252) := ⟨x_t 1646 rfl, x_t 9 rfl, fun _ => x_t 1645 rfl, fun h => absurd h (by decide), by decide +kernel, by decide +kernel, by decide +kernel, by decide +kernel, by decide +kernel⟩
set_option maxRecDepth 30000 in
theorem x_me253 : x_meP (xE 253) := ⟨x_t 1643 rfl, x_t 9 rfl, fun h => absurd h (by decide), fun _ => ⟨x_t 1641 rfl, Or.inr (x_t 1642 rfl)⟩, by decide +kernel, by decide +kernel, by decide +kernel, by decide +kernel, by decide +kernel⟩
set_option maxRecDepth 30000 in
theorem x_me254 : x_meP (xE 254) := ⟨x_t 1650 rfl, x_t 9 rfl, fun h => absurd h (by decide), fun _ => ⟨x_t 1648 rfl, Or.inr (x_t 1649 rfl)⟩, by decide +kernel, by decide +kernel, by decide +kernel, by decide +kernel, by decide +kernel⟩
set_option maxRecDepth 30000 in
theorem x_me255 : x_meP (xE 255) := ⟨x_t 1667 rfl, x_t 9 rfl, fun h => absurd h (by decide), fun _ => ⟨x_t 1666 rfl, Or.inr (x_s 106 rfl)⟩, by decide +kernel, by decide +kernel, by decide +kernel, by decide +kernel, by decide +kernel⟩
set_option maxRecDepth 30000 in
theorem x_me256 : x_meP (xE 256) := ⟨x_t 1663 rfl, x_t 9 rfl, fun h => absurd h (by decide), fun _ => ⟨x_t 1662 rfl, Or.inr (x_s 105 rfl)⟩, by decide +kernel, by decide +kernel, by decide +kernel, by decide +kernel, by decide +kernel⟩
set_option maxRecDepth 30000 in
theorem x_me257 : x_meP (xE 257) := ⟨x_t 1658 rfl, x_t 9 rfl, fun h => absurd h (by decide), fun _ => ⟨x_t 1657 rfl, Or.inr (x_s 104 rfl)⟩, by decide +kernel, by decide +kernel, by decide +kernel, by decide +kernel, by decide +kernel⟩
set_option maxRecDepth 30000 in
theorem x_me258 : x_meP (xE 258) := ⟨x_t 1654 rfl, x_t 9 rfl, fun h => absurd h (by decide), fun _ => ⟨x_t 1652 rfl, Or.inr (x_t 1653 rfl)⟩, by decide +kernel, by decide +kernel, by decide +kernel, by decide +kernel, by decide +kernel⟩
set_option maxRecDepth 30000 in
theorem x_me259 : x_meP (xE 259) := ⟨x_t 1678 rfl, x_t 9 rfl, fun h => absurd h (by decide), fun _ => ⟨x_t 1676 rfl, Or.inr (x_t 1677 rfl)⟩, by decide +kernel, by decide +kernel, by decide +kernel, by decide +kernel, by decide +kernel⟩
set_option maxRecDepth 30000 in
theorem x_me260 : x_meP (xE 260) := ⟨x_t 1682 rfl, x_t 9 rfl, fun h => absurd h (by decide), fun _ => ⟨x_t 1680 rfl, Or.inr (x_t 1681 rfl)⟩, by decide +kernel, by decide +kernel, by decide +kernel, by decide +kernel, by decide +kernel⟩
set_option maxRecDepth 30000 in
theorem x_me261 : x_meP (xE 261) := ⟨x_t 1690 rfl, x_t 9 rfl, fun h => absurd h (by decide), fun _ => ⟨x_t 1689 rfl, Or.inr (x_s 108 rfl)⟩, by decide +kernel, by decide +kernel, by decide +kernel, by decide +kernel, by decide +kernel⟩
set_option maxRecDepth 30000 in
theorem x_me262 : x_meP (xE 262) := ⟨x_t 1694 rfl, x_t 9 rfl, fun h => absurd h (by decide), fun _ => ⟨x_t 1693 rfl, Or.inr (x_s 109 rfl)⟩, by decide +kernel, by decide +kernel, by decide +kernel, by decide +kernel, by decide +kernel⟩
set_option maxRecDepth 30000 in
theorem x_me263 : x_meP (xE 263) := ⟨x_t 1686 rfl, x_t 9 rfl, fun h => absurd h (by decide), fun _ => ⟨x_t 1684 rfl, Or.inr (x_t 1685 rfl)⟩, by decide +kernel, by decide +kernel, by decide +kernel, by decide +kernel, by decide +kernel⟩
set_option maxRecDepth 30000 in
theorem x_me264 : x_meP (xE 264) := ⟨x_t 1698 rfl, x_t 9 rfl, fun h => absurd h (by decide), fun _ => ⟨x_t 1696 rfl, Or.inr (x_t 1697 rfl)⟩, by decide +kernel, by decide +kernel, by decide +kernel, by decide +kernel, by decide +kernel⟩
set_option maxRecDepth 30000 in
theorem x_me265 : x_meP (xE 265) := ⟨x_t 1702 rfl, x_t 9 rfl, fun h => absurd h (by decide), fun _ => ⟨x_t 1700 rfl, Or.inr (x_t 1701 rfl)⟩, by decide +kernel, by decide +kernel, by decide +kernel, by decide +kernel, by decide +kernel⟩
set_option maxRecDepth 30000 in
theorem x_me266 : x_meP (xE 266) := ⟨x_t 1706 rfl, x_t 9 rfl, fun h => absurd h (by decide), fun _ => ⟨x_t 1704 rfl, Or.inr (x_t 1705 rfl)⟩, by decide +kernel, by decide +kernel, by decide +kernel, by decide +kernel, by decide +kernel⟩
set_option maxRecDepth 30000 in
theorem x_me267 : x_meP (xE 267) := ⟨x_t 1718 rfl, x_t 9 rfl, fun h => absurd h (by decide), fun _ => ⟨x_t 1716 rfl, Or.inr (x_t 1717 rfl)⟩, by decide +kernel, by decide +kernel, by decide +kernel, by decide +kernel, by decide +kernel⟩
set_option maxRecDepth 30000 in
theorem x_me268 : x_meP (xE 268) := ⟨x_t 1722 rfl, x_t 9 rfl, fun h => absurd h (by decide), fun _ => ⟨x_t 1720 rfl, Or.inr (x_t 1721 rfl)⟩, by decide +kernel, by decide +kernel, by decide +kernel, by decide +kernel, by decide +kernel⟩
set_option maxRecDepth 30000 in
theorem x_me269 : x_meP (xE 269) := ⟨x_t 1726 rfl, x_t 9 rfl, fun h => absurd h (by decide), fun _ => ⟨x_t 1724 rfl, Or.inr (x_t 1725 rfl)⟩, by decide +kernel, by decide +kernel, by decide +kernel, by decide +kernel, by decide +kernel⟩
set_option maxRecDepth 30000 in
theorem x_me270 : x_meP (xE 270) := ⟨x_t 1730 rfl, x_t 9 rfl, fun h => absurd h (by decide), fun _ => ⟨x_t 1728 rfl, Or.inr (x_t 1729 rfl)⟩, by decide +kernel, by decide +kernel, by decide +kernel, by decide +kernel, by decide +kernel⟩
set_option maxRecDepth 30000 in
theorem x_me271 : x_meP (xE 271) := ⟨x_t 1734 rfl, x_t 9 rfl, fun h => absurd h (by decide), fun _ => ⟨x_t 1732 rfl, Or.inr (x_t 1733 rfl)⟩, by decide +kernel, by decide +kernel, by decide +kernel, by decide +kernel, by decide +kernel⟩
set_option maxRecDepth 30000 in
theorem x_me272 : x_meP (xE 272) := ⟨x_t 1738 rfl, x_t 9 rfl, fun h => absurd h (by decide), fun _ => ⟨x_t 1736 rfl, Or.inr (x_t 1737 rfl)⟩, by decide +kernel, by decide +kernel, by decide +kernel, by decide +kernel, by decide +kernel⟩
set_option maxRecDepth 30000 in
theorem x_me273 : x_meP (xE 273) := ⟨x_t 911 rfl, x_t 21 rfl, fun _ => x_t 910 rfl, fun h => absurd h (by decide), by decide +kernel, by decide +kernel, by decide +kernel, by decide +kernel, by decide +kernel⟩
theorem x_mes0 : ∀ e ∈ xMs_0, x_meP e := List.forall_mem_cons.mpr ⟨x_me0, List.forall_mem_cons.mpr ⟨x_me1, List.forall_mem_cons.mpr ⟨x_me2, List.forall_mem_cons.mpr ⟨x_me3, List.forall_mem_cons.mpr ⟨x_me4, List.forall_mem_cons.mpr ⟨x_me5, List.forall_mem_cons.mpr ⟨x_me6, List.forall_mem_cons.mpr ⟨x_me7, List.forall_mem_cons.mpr ⟨x_me8, List.forall_mem_cons.mpr ⟨x_me9, List.forall_mem_cons.mpr ⟨x_me10, List.forall_mem_cons.mpr ⟨x_me11, List.forall_mem_cons.mpr ⟨x_me12, List.forall_mem_cons.mpr ⟨x_me13, List.forall_mem_cons.mpr ⟨x_me14, List.forall_mem_cons.mpr ⟨x_me15, List.forall_mem_cons.mpr ⟨x_me16, List.forall_mem_cons.mpr ⟨x_me17, List.forall_mem_cons.mpr ⟨x_me18, List.forall_mem_cons.mpr ⟨x_me19, List.forall_mem_cons.mpr ⟨x_me20, List.forall_mem_cons.mpr ⟨x_me21, List.forall_mem_cons.mpr ⟨x_me22, List.forall_mem_cons.mpr ⟨x_me23, List.forall_mem_cons.mpr ⟨x_me24, List.forall_mem_cons.mpr ⟨x_me25, List.forall_mem_cons.mpr ⟨x_me26, List.forall_mem_cons.mpr ⟨x_me27, List.forall_mem_cons.mpr ⟨x_me28, List.forall_mem_cons.mpr ⟨x_me29, List.forall_mem_cons.mpr ⟨x_me30, List.forall_mem_cons.mpr ⟨x_me31, List.forall_mem_cons.mpr ⟨x_me32, List.forall_mem_cons.mpr ⟨x_me33, List.forall_mem_cons.mpr ⟨x_me34, List.forall_mem_cons.mpr ⟨x_me35, List.forall_mem_cons.mpr ⟨x_me36, List.forall_mem_cons.mpr ⟨x_me37, List.forall_mem_cons.mpr ⟨x_me38, List.forall_mem_cons.mpr ⟨x_me39, fun _ h => absurd h List.not_mem_nil⟩⟩⟩⟩⟩⟩⟩⟩⟩⟩⟩⟩⟩⟩⟩⟩⟩⟩⟩⟩⟩⟩⟩⟩⟩⟩⟩⟩⟩⟩⟩⟩⟩⟩⟩⟩⟩⟩⟩⟩
theorem x_mes1 : ∀ e ∈ xMs_1, x_meP e := List.forall_mem_cons.mpr ⟨x_me40, List.forall_mem_cons.mpr ⟨x_me41, List.forall_mem_cons.mpr ⟨x_me42, List.forall_mem_cons.mpr ⟨x_me43, List.forall_mem_cons.mpr ⟨x_me44, List.forall_mem_cons.mpr ⟨x_me45, List.forall_mem_cons.mpr ⟨x_me46, List.forall_mem_cons.mpr ⟨x_me47, List.forall_mem_cons.mpr ⟨x_me48, List.forall_mem_cons.mpr ⟨x_me49, List.forall_mem_cons.mpr ⟨x_me50, List.forall_mem_cons.mpr ⟨x_me51, List.forall_mem_cons.mpr ⟨x_me52, List.forall_mem_cons.mpr ⟨x_me53, List.forall_mem_cons.mpr ⟨x_me54, List.forall_mem_cons.mpr ⟨x_me55, List.forall_mem_cons.mpr ⟨x_me56, List.forall_mem_cons.mpr ⟨x_me57, List.forall_mem_cons.mpr ⟨x_me58, List.forall_mem_cons.mpr ⟨x_me59, List.forall_mem_cons.mpr ⟨x_me60, List.forall_mem_cons.mpr ⟨x_me61, List.forall_mem_cons.mpr ⟨x_me62, List.forall_mem_cons.mpr ⟨x_me63, List.forall_mem_cons.mpr ⟨x_me64, List.forall_mem_cons.mpr ⟨x_me65, List.forall_mem_cons.mpr ⟨x_me66, List.forall_mem_cons.mpr ⟨x_me67, List.forall_mem_cons.mpr ⟨x_me68, List.forall_mem_cons.mpr ⟨x_me69, List.forall_mem_cons.mpr ⟨x_me70, List.forall_mem_cons.mpr ⟨x_me71, List.forall_mem_cons.mpr ⟨x_me72, List.forall_mem_cons.mpr ⟨x_me73, List.forall_mem_cons.mpr ⟨x_me74, List.forall_mem_cons.mpr ⟨x_me75, List.forall_mem_cons.mpr ⟨x_me76, List.forall_mem_cons.mpr ⟨x_me77, List.forall_mem_cons.mpr ⟨x_me78, List.forall_mem_cons.mpr ⟨x_me79, fun _ h => absurd h List.not_mem_nil⟩⟩⟩⟩⟩⟩⟩⟩⟩⟩⟩⟩⟩⟩⟩⟩⟩⟩⟩⟩⟩⟩⟩⟩⟩⟩⟩⟩⟩⟩⟩⟩⟩⟩⟩⟩⟩⟩⟩⟩
theorem x_mes2 : ∀ e ∈ xMs_2, x_meP e := List.forall_mem_cons.mpr ⟨x_me80, List.forall_mem_cons.mpr ⟨x_me81, List.forall_mem_cons.mpr ⟨x_me82, List.forall_mem_cons.mpr ⟨x_me83, List.forall_mem_cons.mpr ⟨x_me84, List.forall_mem_cons.mpr ⟨x_me85, List.forall_mem_cons.mpr ⟨x_me86, List.forall_mem_cons.mpr ⟨x_me87, List.forall_mem_cons.mpr ⟨x_me88, List.forall_mem_cons.mpr ⟨x_me89, List.forall_mem_cons.mpr ⟨x_me90, List.forall_mem_cons.mpr ⟨x_me91, List.forall_mem_cons.mpr ⟨x_me92, List.forall_mem_cons.mpr ⟨x_me93, List.forall_mem_cons.mpr ⟨x_me94, List.forall_mem_cons.mpr ⟨x_me95, List.forall_mem_cons.mpr ⟨x_me96, List.forall_mem_cons.mpr ⟨x_me97, List.forall_mem_cons.mpr ⟨x_me98, List.forall_mem_cons.mpr ⟨x_me99, List.forall_mem_cons.mpr ⟨x_me100, List.forall_mem_cons.mpr ⟨x_me101, List.forall_mem_cons.mpr ⟨x_me102, List.forall_mem_cons.mpr ⟨x_me103, List.forall_mem_cons.mpr ⟨x_me104, List.forall_mem_cons.mpr ⟨x_me105, List.forall_mem_cons.mpr ⟨x_me106, List.forall_mem_cons.mpr ⟨x_me107, List.forall_mem_cons.mpr ⟨x_me108, List.forall_mem_cons.mpr ⟨x_me109, List.forall_mem_cons.mpr ⟨x_me110, List.forall_mem_cons.mpr ⟨x_me111, List.forall_mem_cons.mpr ⟨x_me112, List.forall_mem_cons.mpr ⟨x_me113, List.forall_mem_cons.mpr ⟨x_me114, List.forall_mem_cons.mpr ⟨x_me115, List.forall_mem_cons.mpr ⟨x_me116, List.forall_mem_cons.mpr ⟨x_me117, List.forall_mem_cons.mpr ⟨x_me118, List.forall_mem_cons.mpr ⟨x_me119, fun _ h => absurd h List.not_mem_nil⟩⟩⟩⟩⟩⟩⟩⟩⟩⟩⟩⟩⟩⟩⟩⟩⟩⟩⟩⟩⟩⟩⟩⟩⟩⟩⟩⟩⟩⟩⟩⟩⟩⟩⟩⟩⟩⟩⟩⟩
theorem x_mes3 : ∀ e ∈ xMs_3, x_meP e := List.forall_mem_cons.mpr ⟨x_me120, List.forall_mem_cons.mpr ⟨x_me121, List.forall_mem_cons.mpr ⟨x_me122, List.forall_mem_cons.mpr ⟨x_me123, List.forall_mem_cons.mpr ⟨x_me124, List.forall_mem_cons.mpr ⟨x_me125, List.forall_mem_cons.mpr ⟨x_me126, List.forall_mem_cons.mpr ⟨x_me127, List.forall_mem_cons.mpr ⟨x_me128, List.forall_mem_cons.mpr ⟨x_me129, List.forall_mem_cons.mpr ⟨x_me130, List.forall_mem_cons.mpr ⟨x_me131, List.forall_mem_cons.mpr ⟨x_me132, List.forall_mem_cons.mpr ⟨x_me133, List.forall_mem_cons.mpr ⟨x_me134, List.forall_mem_cons.mpr ⟨x_me135, List.forall_mem_cons.mpr ⟨x_me136, List.forall_mem_cons.mpr ⟨x_me137, List.forall_mem_cons.mpr ⟨x_me138, List.forall_mem_cons.mpr ⟨x_me139, List.forall_mem_cons.mpr ⟨x_me140, List.forall_mem_cons.mpr ⟨x_me141, List.forall_mem_cons.mpr ⟨x_me142, List.forall_mem_cons.mpr ⟨x_me143, List.forall_mem_cons.mpr ⟨x_me144, List.forall_mem_cons.mpr ⟨x_me145, List.forall_mem_cons.mpr ⟨x_me146, List.forall_mem_cons.mpr ⟨x_me147, List.forall_mem_cons.mpr ⟨x_me148, List.forall_mem_cons.mpr ⟨x_me149, List.forall_mem_cons.mpr ⟨x_me150, List.forall_mem_cons.mpr ⟨x_me151, List.forall_mem_cons.mpr ⟨x_me152, List.forall_mem_cons.mpr ⟨x_me153, List.forall_mem_cons.mpr ⟨x_me154, List.forall_mem_cons.mpr ⟨x_me155, List.forall_mem_cons.mpr ⟨x_me156, List.forall_mem_cons.mpr ⟨x_me157, List.forall_mem_cons.mpr ⟨x_me158, List.forall_mem_cons.mpr ⟨x_me159, fun _ h => absurd h List.not_mem_nil⟩⟩⟩⟩⟩⟩⟩⟩⟩⟩⟩⟩⟩⟩⟩⟩⟩⟩⟩⟩⟩⟩⟩⟩⟩⟩⟩⟩⟩⟩⟩⟩⟩⟩⟩⟩⟩⟩⟩⟩
theorem x_mes4 : ∀ e ∈ xMs_4, x_meP e := List.forall_mem_cons.mpr ⟨x_me160, List.forall_mem_cons.mpr ⟨x_me161, List.forall_mem_cons.mpr ⟨x_me162, List.forall_mem_cons.mpr ⟨x_me163, List.forall_mem_cons.mpr ⟨x_me164, List.forall_mem_cons.mpr ⟨x_me165, List.forall_mem_cons.mpr ⟨x_me166, List.forall_mem_cons.mpr ⟨x_me167, List.forall_mem_cons.mpr ⟨x_me168, List.forall_mem_cons.mpr ⟨x_me169, List.forall_mem_cons.mpr ⟨x_me170, List.forall_mem_cons.mpr ⟨x_me171, List.forall_mem_cons.mpr ⟨x_me172, List.forall_mem_cons.mpr ⟨x_me173, List.forall_mem_cons.mpr ⟨x_me174, List.forall_mem_cons.mpr ⟨x_me175, List.forall_mem_cons.mpr ⟨x_me176, List.forall_mem_cons.mpr ⟨x_me177, List.forall_mem_cons.mpr ⟨x_me178, List.forall_mem_cons.mpr ⟨x_me179, List.forall_mem_cons.mpr ⟨x_me180, List.forall_mem_cons.mpr ⟨x_me181, List.forall_mem_cons.mpr ⟨x_me182, List.forall_mem_cons.mpr ⟨x_me183, List.forall_mem_cons.mpr ⟨x_me184, List.forall_mem_cons.mpr ⟨x_me185, List.forall_mem_cons.mpr ⟨x_me186, List.forall_mem_cons.mpr ⟨x_me187, List.forall_mem_cons.mpr ⟨x_me188, List.forall_mem_cons.mpr ⟨x_me189, List.forall_mem_cons.mpr ⟨x_me190, List.forall_mem_cons.mpr ⟨x_me191, List.forall_mem_cons.mpr ⟨x_me192, List.forall_mem_cons.mpr ⟨x_me193, List.forall_mem_cons.mpr ⟨x_me194, List.forall_mem_cons.mpr ⟨x_me195, List.forall_mem_cons.mpr ⟨x_me196, List.forall_mem_cons.mpr ⟨x_me197, List.forall_mem_cons.mpr ⟨x_me198, List.forall_mem_cons.mpr ⟨x_me199, fun _ h => absurd h List.not_mem_nil⟩⟩⟩⟩⟩⟩⟩⟩⟩⟩⟩⟩⟩⟩⟩⟩⟩⟩⟩⟩⟩⟩⟩⟩⟩⟩⟩⟩⟩⟩⟩⟩⟩⟩⟩⟩⟩⟩⟩⟩
theorem x_mes5 : ∀ e ∈ xMs_5, x_meP e := List.forall_mem_cons.mpr ⟨x_me200, List.forall_mem_cons.mpr ⟨x_me201, List.forall_mem_cons.mpr ⟨x_me202, List.forall_mem_cons.mpr ⟨x_me203, List.forall_mem_cons.mpr ⟨x_me204, List.forall_mem_cons.mpr ⟨x_me205, List.forall_mem_cons.mpr ⟨x_me206, List.forall_mem_cons.mpr ⟨x_me207, List.forall_mem_cons.mpr ⟨x_me208, List.forall_mem_cons.mpr ⟨x_me209, List.forall_mem_cons.mpr ⟨x_me210, List.forall_mem_cons.mpr ⟨x_me211, List.forall_mem_cons.mpr ⟨x_me212, List.forall_mem_cons.mpr ⟨x_me213, List.forall_mem_cons.mpr ⟨x_me214, List.forall_mem_cons.mpr ⟨x_me215, List.forall_mem_cons.mpr ⟨x_me216, List.forall_mem_cons.mpr ⟨x_me217, List.forall_mem_cons.mpr ⟨x_me218, List.forall_mem_cons.mpr ⟨x_me219, List.forall_mem_cons.mpr ⟨x_me220, List.forall_mem_cons.mpr ⟨x_me221, List.forall_mem_cons.mpr ⟨x_me222, List.forall_mem_cons.mpr ⟨x_me223, List.forall_mem_cons.mpr ⟨x_me224, List.forall_mem_cons.mpr ⟨x_me225, List.forall_mem_cons.mpr ⟨x_me226, List.forall_mem_cons.mpr ⟨x_me227, List.forall_mem_cons.mpr ⟨x_me228, List.forall_mem_cons.mpr ⟨x_me229, List.forall_mem_cons.mpr ⟨x_me230, List.forall_mem_cons.mpr ⟨x_me231, List.forall_mem_cons.mpr ⟨x_me232, List.forall_mem_cons.mpr ⟨x_me233, List.forall_mem_cons.mpr ⟨x_me234, List.forall_mem_cons.mpr ⟨x_me235, List.forall_mem_cons.mpr ⟨x_me236, List.forall_mem_cons.mpr ⟨x_me237, List.forall_mem_cons.mpr ⟨x_me238, List.forall_mem_cons.mpr ⟨x_me239, fun _ h => absurd h List.not_mem_nil⟩⟩⟩⟩⟩⟩⟩⟩⟩⟩⟩⟩⟩⟩⟩⟩⟩⟩⟩⟩⟩⟩⟩⟩⟩⟩⟩⟩⟩⟩⟩⟩⟩⟩⟩⟩⟩⟩⟩⟩
theorem x_mes6 : ∀ e ∈ xMs_6, x_meP e := List.forall_mem_cons.mpr ⟨x_me240, List.forall_mem_cons.mpr ⟨x_me241, List.forall_mem_cons.mpr ⟨x_me242, List.forall_mem_cons.mpr ⟨x_me243, List.forall_mem_cons.mpr ⟨x_me244, List.forall_mem_cons.mpr ⟨x_me245, List.forall_mem_cons.mpr ⟨x_me246, List.forall_mem_cons.mpr ⟨x_me247, List.forall_mem_cons.mpr ⟨x_me248, List.forall_mem_cons.mpr ⟨x_me249, List.forall_mem_cons.mpr ⟨x_me250, List.forall_mem_cons.mpr ⟨x_me251, List.forall_mem_cons.mpr ⟨x_me252, List.forall_mem_cons.mpr ⟨x_me253, List.forall_mem_cons.mpr ⟨x_me254, List.forall_mem_cons.mpr ⟨x_me255, List.forall_mem_cons.mpr ⟨x_me256, List.forall_mem_cons.mpr ⟨x_me257, List.forall_mem_cons.mpr ⟨x_me258, List.forall_mem_cons.mpr ⟨x_me259, List.forall_mem_cons.mpr ⟨x_me260, List.forall_mem_cons.mpr ⟨x_me261, List.forall_mem_cons.mpr ⟨x_me262, List.forall_mem_cons.mpr ⟨x_me263, List.forall_mem_cons.mpr ⟨x_me264, List.forall_mem_cons.mpr ⟨x_me265, List.forall_mem_cons.mpr ⟨x_me266, List.forall_mem_cons.mpr ⟨x_me267, List.forall_mem_cons.mpr ⟨x_me268, List.forall_mem_cons.mpr ⟨x_me269, List.forall_mem_cons.mpr ⟨x_me270, List.forall_mem_cons.mpr ⟨x_me271, List.forall_mem_cons.mpr ⟨x_me272, List.forall_mem_cons.mpr ⟨x_me273, fun _ h => absurd h List.not_mem_nil⟩⟩⟩⟩⟩⟩⟩⟩⟩⟩⟩⟩⟩⟩⟩⟩⟩⟩⟩⟩⟩⟩⟩⟩⟩⟩⟩⟩⟩⟩⟩⟩⟩⟩
theorem x_mes : ∀ e ∈ xMs, x_meP e := List.forall_mem_append.mpr ⟨x_mes0, List.forall_mem_append.mpr ⟨x_mes1, List.forall_mem_append.mpr ⟨x_mes2, List.forall_mem_append.mpr ⟨x_mes3, List.forall_mem_append.mpr ⟨x_mes4, List.forall_mem_append.mpr ⟨x_mes5, x_mes6⟩⟩⟩⟩⟩⟩
theorem x_meAt {k : Nat} (h : k < 274) : x_meP (xE k) := by
  refine x_mes _ ?_
  have hl : k < xMs.length := by
    rw [show xMs.length = 274 by decide +kernel]
    exact h
  unfold xE
  rw [List.getD_eq_getElem?_getD, List.getElem?_eq_getElem hl]
  exact List.getElem_mem hl
def xFL : List (Nat × Nat × Nat) := [(0, 9, 0), (4, 34, 0), (3, 154, 0), (0, 15, 1), (3, 159, 1), (7, 291, 1), (0, 18, 2), (7, 96, 2), (3, 80, 2), (0, 21, 3), (3, 125, 3), (7, 326, 3), (0, 24, 4), (3, 131, 4), (7, 329, 4), (0, 27, 5), (1, 40, 5), (3, 137, 5), (7, 225, 5), (0, 30, 6), (3, 225, 6), (7, 332, 6), (0, 33, 7), (7, 105, 7), (3, 162, 7), (0, 37, 8), (4, 41, 8), (3, 171, 8), (0, 40, 9), (7, 112, 9), (3, 176, 9), (0, 43, 10), (7, 118, 10), (3, 190, 10), (0, 46, 11), (1, 61, 11), (3, 222, 11), (7, 254, 11), (0, 49, 12), (1, 31, 12), (4, 48, 12), (3, 197, 12), (7, 245, 12), (0, 52, 13), (7, 218, 13), (0, 55, 14), (1, 55, 14), (3, 211, 14), (0, 58, 15), (1, 43, 15), (3, 214, 15), (0, 61, 16), (1, 46, 16), (3, 219, 16), (3, 9, 300), (7, 68, 300), (3, 15, 301), (7, 99, 301), (3, 21, 302), (7, 83, 302), (3, 25, 303), (3, 28, 304), (3, 32, 305), (3, 35, 306), (3, 38, 307), (3, 41, 308), (3, 44, 309), (3, 47, 310), (3, 51, 311), (3, 55, 312), (4, 9, 400), (7, 323, 400), (4, 15, 401), (7, 278, 401), (4, 18, 402), (7, 302, 402), (4, 21, 403), (7, 158, 403), (4, 24, 404), (7, 161, 404), (4, 27, 405), (7, 109, 405), (4, 31, 406), (7, 131, 406), (2, 9, 200), (7, 340, 200), (2, 15, 201), (7, 310, 201), (2, 18, 202), (2, 23, 203), (2, 27, 204), (6, 9, 600), (7, 145, 600), (5, 9, 500), (1, 9, 100), (1, 15, 101), (1, 19, 102), (1, 22, 103), (1, 25, 104), (1, 28, 105), (7, 10, 700), (7, 19, 701), (7, 26, 702), (7, 30, 703), (7, 36, 704), (7, 43, 705), (7, 50, 706), (7, 57, 707), (7, 61, 708), (7, 65, 709), (9, 51, 900), (9, 54, 901), (9, 9, 902), (9, 280, 903), (9, 148, 904), (9, 13, 905), (9, 273, 906), (9, 68, 907), (9, 86, 908), (9, 83, 909), (9, 92, 910), (9, 106, 911), (9, 109, 912), (9, 112, 913), (9, 99, 914), (9, 239, 915), (9, 17, 916), (9, 21, 917), (9, 24, 918), (9, 27, 919), (9, 285, 920), (9, 288, 921), (9, 30, 922), (9, 33, 923), (9, 303, 924), (9, 344, 925), (9, 365, 926), (9, 36, 927), (9, 39, 928), (9, 385, 929), (9, 42, 930), (9, 45, 931), (9, 48, 932), (9, 394, 933), (9, 403, 934), (9, 409, 935), (9, 442, 936), (8, 9, 800), (8, 47, 802), (8, 15, 807), (8, 19, 808), (8, 22, 809), (8, 25, 810), (8, 28, 811), (8, 31, 812), (8, 34, 813), (8, 37, 814), (8, 40, 815), (8, 43, 816)]
def xfw (e : Nat × Nat × Nat) : Cond := .fieldLink (xR e.1) e.2.1 (xkC (e.2.2 / 100)).1 ((xkC (e.2.2 / 100)).2.1 (e.2.2 % 100)).2.1 ((xkC (e.2.2 / 100)).2.1 (e.2.2 % 100)).2.2.1
theorem x_fl {e : Nat × Nat × Nat} (h : e ∈ xFL) : xfw e ∈ lw_tbl := List.mem_append_right _ (x_mem (big := tables_1) (xFL.map xfw) [42, 43, 44, 45, 46, 47, 48, 49, 50, 51, 52, 53, 54, 55, 56, 57, 58, 59, 60, 61, 62, 63, 64, 65, 66, 67, 68, 69, 70, 71, 72, 73, 74, 75, 76, 77, 78, 79, 80, 81, 82, 83, 84, 85, 86, 87, 88, 89, 90, 91, 92, 93, 94, 95, 132, 133, 134, 135, 136, 137, 138, 139, 140, 141, 142, 143, 144, 145, 146, 147, 185, 186, 187, 188, 189, 190, 191, 192, 193, 194, 195, 196, 197, 198, 223, 224, 225, 226, 227, 228, 229, 247, 248, 258, 268, 269, 270, 271, 272, 273, 287, 288, 289, 290, 291, 292, 293, 294, 295, 296, 994, 995, 996, 997, 998, 999, 1000, 1001, 1002, 1003, 1004, 1005, 1006, 1007, 1008, 1009, 1010, 1011, 1012, 1013, 1014, 1015, 1016, 1017, 1018, 1019, 1020, 1021, 1022, 1023, 1024, 1025, 1026, 1027, 1028, 1029, 1030, 1128, 1131, 1137, 1139, 1141, 1143, 1145, 1147, 1149, 1151, 1153, 1155] (by decide +kernel) _ (List.mem_map_of_mem h))
def xFN : List (Nat × Nat × Nat) := [(9, 152, 800), (9, 198, 801), (9, 170, 802), (9, 227, 803), (9, 247, 804), (9, 255, 805), (9, 270, 806), (9, 220, 807), (9, 223, 808), (9, 225, 809), (9, 233, 810), (9, 268, 811), (9, 242, 812), (9, 260, 813), (9, 263, 814), (9, 266, 815), (9, 216, 816)]
def xHost (o : Nat) : String := if o < 8 then "LastAsked" else "LastAskedModel"
def xfn (e : Nat × Nat × Nat) : Cond := .fieldLinkNest (xR e.1) e.2.1 (xkC (e.2.2 / 100)).1 ((xkC (e.2.2 / 100)).2.1 (e.2.2 % 100)).2.1 ((xkC (e.2.2 / 100)).2.1 (e.2.2 % 100)).2.2.1 (xHost e.1)
theorem x_fn {e : Nat × Nat × Nat} (h : e ∈ xFN) : xfn e ∈ lw_tbl := List.mem_append_right _ (x_mem (big := tables_1) (xFN.map xfn) [1129, 1130, 1132, 1133, 1134, 1135, 1136, 1138, 1140, 1142, 1144, 1146, 1148, 1150, 1152, 1154, 1156] (by decide +kernel) _ (List.mem_map_of_mem h))
def xVL : List (Nat × Nat × Nat) := [(7, 35, 16), (7, 71, 23), (7, 75, 114), (7, 79, 24), (3, 65, 1), (3, 68, 36), (3, 72, 26), (3, 86, 27), (3, 89, 28), (3, 92, 29), (3, 76, 25), (3, 119, 37), (3, 148, 30), (3, 151, 31), (3, 122, 38), (3, 110, 32), (3, 113, 33), (3, 166, 39), (3, 128, 40), (3, 187, 35), (3, 116, 34), (3, 134, 42), (3, 206, 41), (3, 203, 4), (3, 140, 43), (3, 143, 44), (3, 83, 5), (7, 86, 2), (7, 90, 46), (4, 37, 3), (7, 93, 17), (7, 102, 116), (7, 115, 48), (7, 121, 126), (7, 343, 4), (7, 124, 127), (7, 127, 117), (7, 134, 125), (7, 138, 119), (7, 141, 129), (7, 250, 57), (6, 19, 58), (7, 148, 130), (7, 151, 131), (7, 170, 124), (7, 173, 59), (7, 154, 115), (7, 164, 128), (7, 167, 118), (7, 176, 62), (7, 179, 60), (7, 184, 133), (7, 196, 132), (7, 188, 135), (7, 350, 136), (7, 192, 134), (7, 199, 61), (7, 202, 120), (7, 206, 137), (7, 354, 138), (7, 209, 139), (7, 275, 47), (7, 294, 49), (7, 212, 140), (7, 357, 53), (5, 19, 54), (7, 215, 55), (7, 361, 141), (7, 221, 10), (1, 74, 7), (1, 78, 9), (1, 58, 8), (1, 64, 3), (1, 68, 58), (7, 228, 11), (7, 232, 8), (7, 235, 12), (7, 239, 13), (1, 82, 14), (1, 86, 15), (7, 242, 15), (7, 246, 3), (7, 257, 121), (7, 260, 142), (7, 264, 143), (7, 268, 122), (7, 271, 144), (7, 281, 145), (7, 364, 50), (7, 298, 51), (4, 63, 59), (7, 285, 123), (7, 288, 18), (2, 31, 47), (7, 306, 19), (7, 313, 20), (7, 316, 21), (7, 335, 273), (9, 57, 151), (9, 276, 146), (9, 119, 165), (9, 89, 161), (9, 95, 162), (9, 103, 163), (9, 277, 173), (9, 164, 174), (9, 122, 167), (9, 115, 164), (9, 173, 175), (9, 126, 166), (9, 192, 169), (9, 130, 156), (9, 176, 176), (9, 200, 171), (9, 156, 170), (9, 160, 147), (9, 179, 177), (9, 230, 172), (9, 235, 157), (9, 182, 179), (9, 250, 178), (9, 244, 148), (9, 185, 180), (9, 188, 181), (9, 167, 168), (9, 282, 189), (9, 61, 154), (9, 291, 186), (9, 321, 198), (9, 318, 199), (9, 323, 200), (9, 326, 187), (9, 329, 203), (9, 315, 188), (9, 300, 192), (9, 294, 190), (9, 297, 191), (9, 332, 197), (9, 309, 193), (9, 335, 205), (9, 312, 195), (9, 306, 194), (9, 338, 210), (9, 341, 158), (9, 356, 219), (9, 349, 218), (9, 352, 217), (9, 359, 160), (9, 64, 159), (9, 371, 226), (9, 375, 225), (9, 368, 224), (9, 388, 231), (9, 381, 229), (9, 378, 230), (9, 406, 240), (9, 397, 238), (9, 391, 237), (9, 400, 239), (9, 412, 244), (9, 415, 250), (9, 418, 152), (9, 421, 249), (9, 425, 248), (9, 429, 252), (9, 450, 257), (9, 454, 256), (9, 445, 255), (9, 438, 196), (9, 457, 261), (9, 460, 262), (9, 463, 153), (9, 466, 155)]
def xvw (e : Nat × Nat × Nat) : Cond := .methodLink (xR e.1) e.2.1 (xE e.2.2).1
theorem x_vl {e : Nat × Nat × Nat} (h : e ∈ xVL) : xvw e ∈ lw_tbl := List.mem_append_right _ (x_mem (big := tables_1) (xVL.map xvw) [216, 322, 330, 334, 341, 345, 349, 353, 357, 362, 366, 370, 375, 379, 389, 393, 398, 402, 412, 416, 420, 427, 431, 438, 444, 449, 453, 459, 466, 470, 475, 491, 495, 500, 504, 505, 513, 517, 522, 526, 530, 535, 543, 551, 555, 556, 564, 572, 580, 596, 608, 617, 621, 626, 630, 637, 649, 657, 661, 665, 668, 672, 676, 690, 694, 699, 705, 709, 733, 737, 745, 749, 753, 754, 759, 763, 768, 776, 780, 784, 792, 797, 802, 806, 813, 824, 829, 833, 837, 842, 846, 859, 863, 867, 885, 893, 901, 909, 1118, 1124, 1192, 1196, 1200, 1204, 1207, 1211, 1216, 1220, 1271, 1275, 1280, 1284, 1289, 1293, 1297, 1306, 1316, 1320, 1324, 1327, 1331, 1335, 1341, 1346, 1350, 1354, 1358, 1374, 1378, 1382, 1386, 1394, 1402, 1406, 1410, 1414, 1418, 1426, 1430, 1434, 1442, 1446, 1462, 1486, 1493, 1497, 1502, 1506, 1510, 1529, 1533, 1538, 1550, 1554, 1558, 1582, 1586, 1590, 1594, 1610, 1626, 1630, 1634, 1637, 1644, 1655, 1660, 1664, 1671, 1687, 1691, 1707, 1711] (by decide +kernel) _ (List.mem_map_of_mem h))
def xVN : List (Nat × Nat × Nat) := [(7, 9, 22), (3, 20, 0), (7, 18, 0), (7, 25, 45), (2, 30, 45), (7, 42, 56), (7, 49, 52), (7, 56, 6), (3, 193, 124), (3, 200, 125), (0, 70, 124), (0, 74, 125), (4, 49, 124), (6, 15, 124), (6, 23, 125), (4, 53, 125), (5, 15, 124), (5, 23, 125), (8, 50, 157)]
def xvn (e : Nat × Nat × Nat) : Cond := .methodLinkNest (xR e.1) e.2.1 (xE e.2.2).1 (xHost e.1)
theorem x_vn {e : Nat × Nat × Nat} (h : e ∈ xVN) : xvn e ∈ lw_tbl := List.mem_append_right _ (x_mem (big := tables_1) (xVN.map xvn) [32, 38, 178, 181, 222, 243, 254, 264, 424, 435, 442, 457, 499, 534, 538, 680, 698, 703, 1339] (by decide +kernel) _ (List.mem_map_of_mem h))
def xOL : List (Nat × Nat) := [(7, 1), (3, 3), (0, 3), (4, 3), (2, 3), (6, 3), (5, 3), (1, 3), (9, 3), (8, 3)]
def xOLw (e : Nat × Nat) : Cond := .methodLink (xR e.1) e.2 objectInit
theorem xOL_in {e : Nat × Nat} (h : e ∈ xOL) : xOLw e ∈ lw_tbl := List.mem_append_right _ (x_mem (big := tables_1) (xOL.map xOLw) [27, 35, 41, 184, 219, 246, 257, 267, 993, 1127] (by decide +kernel) _ (List.mem_map_of_mem h))
def xMI : List (Nat × Nat) := [(3, 59), (0, 78), (4, 57), (5, 27), (2, 35)]
def xMIw (e : Nat × Nat) : Cond := .methodLink (xR e.1) e.2 Lib.Math.min.name
theorem xMI_in {e : Nat × Nat} (h : e ∈ xMI) : xMIw e ∈ lw_tbl := List.mem_append_right _ (x_mem (big := tables_1) (xMI.map xMIw) [338, 458, 681, 704, 868] (by decide +kernel) _ (List.mem_map_of_mem h))
def xMA : List (Nat × Nat) := [(1, 49)]
def xMAw (e : Nat × Nat) : Cond := .methodLink (xR e.1) e.2 Lib.Math.max.name
theorem xMA_in {e : Nat × Nat} (h : e ∈ xMA) : xMAw e ∈ lw_tbl := List.mem_append_right _ (x_mem (big := tables_1) (xMA.map xMAw) [742] (by decide +kernel) _ (List.mem_map_of_mem h))
def xAL : List (Nat × Nat) := [(0, 64), (4, 42), (1, 34)]
def xALw (e : Nat × Nat) : Cond := .methodLink (xR e.1) e.2 arraycopyName
theorem xAL_in {e : Nat × Nat} (h : e ∈ xAL) : xALw e ∈ lw_tbl := List.mem_append_right _ (x_mem (big := tables_1) (xAL.map xALw) [463, 474, 741] (by decide +kernel) _ (List.mem_map_of_mem h))
def xCK : List (Nat × Nat × Nat) := [(7, 7, 3), (3, 18, 0), (7, 16, 0), (7, 23, 4), (7, 33, 2), (2, 21, 4), (7, 40, 6), (7, 47, 5), (7, 54, 1), (9, 153, 8)]
def xckw (e : Nat × Nat × Nat) : Cond := .classLink (xR e.1) e.2.1 (xR e.2.2)
theorem x_ck {e : Nat × Nat × Nat} (h : e ∈ xCK) : xckw e ∈ lw_tbl := List.mem_append_right _ (x_mem (big := tables_1) (xCK.map xckw) [30, 36, 177, 179, 214, 220, 241, 252, 262, 1122] (by decide +kernel) _ (List.mem_map_of_mem h))
def xKI : List (Nat × Nat × Int32) := [(7, 305, 65536), (4, 62, 65537), (10, 265, 1431655765), (10, 266, 858993459), (10, 267, 252645135), (9, 449, 65536)]
def xkiw (e : Nat × Nat × Int32) : Cond := .constant (xR e.1) e.2.1 e.2.2
theorem x_ki {e : Nat × Nat × Int32} (h : e ∈ xKI) : xkiw e ∈ lw_tbl := List.mem_append_right _ (x_mem (big := tables_1) (xKI.map xkiw) [828, 841, 912, 913, 914, 1659] (by decide +kernel) _ (List.mem_map_of_mem h))
def xKL : List (Nat × Nat × Int64) := [(3, 96, 1667855481), (3, 146, 1752135026), (3, 157, 444150998387), (3, 98, 123581014175598), (3, 100, 1852137842), (3, 102, 418548245860), (3, 104, 448377483876), (3, 106, 2003136116), (3, 108, 6513012), (3, 179, 482854660462), (3, 181, 1936225652), (3, 183, 131260314576228), (3, 185, 110429572722546), (3, 169, 6840691), (3, 174, 1684628851), (3, 209, 24948), (3, 217, 1734964837), (7, 182, (-1)), (7, 346, 100), (7, 348, 1000000000000), (9, 77, 32), (9, 347, 100), (9, 363, (-1)), (9, 432, 75), (9, 434, 74), (9, 436, 65537)]
def xklw (e : Nat × Nat × Int64) : Cond := .constantLong (xR e.1) e.2.1 e.2.2
theorem x_kl {e : Nat × Nat × Int64} (h : e ∈ xKL) : xklw e ∈ lw_tbl := List.mem_append_right _ (x_mem (big := tables_1) (xKL.map xklw) [361, 374, 383, 384, 385, 386, 387, 388, 397, 406, 407, 408, 409, 410, 411, 443, 448, 616, 625, 629, 1203, 1501, 1537, 1668, 1669, 1670] (by decide +kernel) _ (List.mem_map_of_mem h))
def xStr : List String := ["city", "hour", "gives", "person", "near", "asked", "heard", "went", "cat", "plain", "shut", "walled", "doctor", "has", "dies", "at", "give"]
def xKS : List (Nat × Nat × Nat) := [(9, 134, 0), (9, 191, 1), (9, 196, 2), (9, 136, 3), (9, 138, 4), (9, 140, 5), (9, 142, 6), (9, 144, 7), (9, 146, 8), (9, 204, 9), (9, 206, 10), (9, 208, 11), (9, 210, 12), (9, 212, 13), (9, 214, 14), (9, 253, 15), (9, 258, 16)]
def xksw (e : Nat × Nat × Nat) : Cond := .stringRef (xR e.1) e.2.1 (xStr.getD e.2.2 "")
theorem x_ks {e : Nat × Nat × Nat} (h : e ∈ xKS) : xksw e ∈ lw_tbl := List.mem_append_right _ (x_mem (big := tables_1) (xKS.map xksw) [1215, 1279, 1287, 1288, 1301, 1302, 1303, 1304, 1305, 1310, 1311, 1312, 1313, 1314, 1315, 1340, 1345] (by decide +kernel) _ (List.mem_map_of_mem h))
set_option maxRecDepth 30000 in
theorem x_ins0 : Cond.instantiable (xR 0) (xNF 0) ∈ lw_tbl ∧ Cond.initialized (xR 0) ∈ lw_tbl := ⟨x_t 37 rfl, x_t 3 rfl⟩
set_option maxRecDepth 30000 in
theorem x_ins1 : Cond.instantiable (xR 1) (xNF 1) ∈ lw_tbl ∧ Cond.initialized (xR 1) ∈ lw_tbl := ⟨x_t 263 rfl, x_t 8 rfl⟩
set_option maxRecDepth 30000 in
theorem x_ins2 : Cond.instantiable (xR 2) (xNF 2) ∈ lw_tbl ∧ Cond.initialized (xR 2) ∈ lw_tbl := ⟨x_t 215 rfl, x_t 5 rfl⟩
set_option maxRecDepth 30000 in
theorem x_ins3 : Cond.instantiable (xR 3) (xNF 3) ∈ lw_tbl ∧ Cond.initialized (xR 3) ∈ lw_tbl := ⟨x_t 31 rfl, x_t 2 rfl⟩
set_option maxRecDepth 30000 in
theorem x_ins4 : Cond.instantiable (xR 4) (xNF 4) ∈ lw_tbl ∧ Cond.initialized (xR 4) ∈ lw_tbl := ⟨x_t 180 rfl, x_t 4 rfl⟩
set_option maxRecDepth 30000 in
theorem x_ins5 : Cond.instantiable (xR 5) (xNF 5) ∈ lw_tbl ∧ Cond.initialized (xR 5) ∈ lw_tbl := ⟨x_t 253 rfl, x_t 7 rfl⟩
set_option maxRecDepth 30000 in
theorem x_ins6 : Cond.instantiable (xR 6) (xNF 6) ∈ lw_tbl ∧ Cond.initialized (xR 6) ∈ lw_tbl := ⟨x_t 242 rfl, x_t 6 rfl⟩
set_option maxRecDepth 30000 in
theorem x_ins7 : Cond.instantiable (xR 7) (xNF 7) ∈ lw_tbl ∧ Cond.initialized (xR 7) ∈ lw_tbl := ⟨x_t 23 rfl, x_t 1 rfl⟩
set_option maxRecDepth 30000 in
theorem x_ins8 : Cond.instantiable (xR 8) (xNF 8) ∈ lw_tbl ∧ Cond.initialized (xR 8) ∈ lw_tbl := ⟨x_t 1123 rfl, x_t 12 rfl⟩
set_option maxRecDepth 30000 in
theorem x_ins9 : Cond.instantiable (xR 9) (xNF 9) ∈ lw_tbl ∧ Cond.initialized (xR 9) ∈ lw_tbl := ⟨x_t 989 rfl, x_t 9 rfl⟩
theorem x_ins (c : Nat) (h : c < 10) : Cond.instantiable (xR c) (xNF c) ∈ lw_tbl ∧ Cond.initialized (xR c) ∈ lw_tbl := by
  rcases (show c = 0 ∨ c = 1 ∨ c = 2 ∨ c = 3 ∨ c = 4 ∨ c = 5 ∨ c = 6 ∨ c = 7 ∨ c = 8 ∨ c = 9 by omega) with rfl | rfl | rfl | rfl | rfl | rfl | rfl | rfl | rfl | rfl
  · exact x_ins0
  · exact x_ins1
  · exact x_ins2
  · exact x_ins3
  · exact x_ins4
  · exact x_ins5
  · exact x_ins6
  · exact x_ins7
  · exact x_ins8
  · exact x_ins9
