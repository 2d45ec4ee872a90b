/-! call words (by program) -/
set_option maxRecDepth 20000 in
theorem cl_RX0_37 : ab_CV RX0 37 8 mX8_living 0 := ⟨⟨_, _, rfl⟩, ab_in (i := 691) rfl rfl, ab_in (i := 505) rfl rfl, ab_in (i := 506) rfl rfl, ab_in (i := 61) rfl rfl, ab_in (i := 507) rfl rfl, by decide +kernel, by decide +kernel, by decide +kernel, by decide +kernel⟩
set_option maxRecDepth 20000 in
theorem cl_RX0_43 : ab_CV RX0 43 8 mX8_copied 0 := ⟨⟨_, _, rfl⟩, ab_in (i := 692) rfl rfl, ab_in (i := 509) rfl rfl, ab_in (i := 510) rfl rfl, ab_in (i := 61) rfl rfl, ab_in (i := 511) rfl rfl, by decide +kernel, by decide +kernel, by decide +kernel, by decide +kernel⟩
set_option maxRecDepth 20000 in
theorem cl_RX0_49 : ab_CV RX0 49 8 mX8_measure 3 := ⟨⟨_, _, rfl⟩, ab_in (i := 693) rfl rfl, ab_in (i := 541) rfl rfl, ab_in (i := 542) rfl rfl, ab_in (i := 61) rfl rfl, ab_in (i := 543) rfl rfl, by decide +kernel, by decide +kernel, by decide +kernel, by decide +kernel⟩
set_option maxRecDepth 20000 in
theorem cl_RX0_53 : ab_CV RX0 53 0 mX0_extend 6 := ⟨⟨_, _, rfl⟩, ab_in (i := 694) rfl rfl, ab_in (i := 696) rfl rfl, ab_in (i := 17) rfl rfl, ab_in (i := 64) rfl rfl, ab_in (i := 697) rfl rfl, by decide +kernel, by decide +kernel, by decide +kernel, by decide +kernel⟩
set_option maxRecDepth 20000 in
theorem cl_RX1_25 : ab_CV RX1 25 8 mX8_lives 1 := ⟨⟨_, _, rfl⟩, ab_in (i := 742) rfl rfl, ab_in (i := 545) rfl rfl, ab_in (i := 546) rfl rfl, ab_in (i := 61) rfl rfl, ab_in (i := 547) rfl rfl, by decide +kernel, by decide +kernel, by decide +kernel, by decide +kernel⟩
set_option maxRecDepth 20000 in
theorem cl_RX1_31 : ab_CV RX1 31 8 mX8_living 0 := ⟨⟨_, _, rfl⟩, ab_in (i := 743) rfl rfl, ab_in (i := 505) rfl rfl, ab_in (i := 506) rfl rfl, ab_in (i := 61) rfl rfl, ab_in (i := 507) rfl rfl, by decide +kernel, by decide +kernel, by decide +kernel, by decide +kernel⟩
set_option maxRecDepth 20000 in
theorem cl_RX1_35 : ab_CV RX1 35 1 mX1_leastFrom 2 := ⟨⟨_, _, rfl⟩, ab_in (i := 744) rfl rfl, ab_in (i := 746) rfl rfl, ab_in (i := 20) rfl rfl, ab_in (i := 66) rfl rfl, ab_in (i := 747) rfl rfl, by decide +kernel, by decide +kernel, by decide +kernel, by decide +kernel⟩
set_option maxRecDepth 20000 in
theorem cl_RX1_39 : ab_CV RX1 39 1 mX1_chooseAll 1 := ⟨⟨_, _, rfl⟩, ab_in (i := 763) rfl rfl, ab_in (i := 765) rfl rfl, ab_in (i := 23) rfl rfl, ab_in (i := 66) rfl rfl, ab_in (i := 766) rfl rfl, by decide +kernel, by decide +kernel, by decide +kernel, by decide +kernel⟩
set_option maxRecDepth 20000 in
theorem cl_RX1_43 : ab_CS RX1 43 mJ6_bitCount_0f7a4 1 := ⟨ab_in (i := 748) rfl rfl, ab_in (i := 733) rfl rfl, ab_in (i := 70) rfl rfl, ab_in (i := 734) rfl rfl, by decide +kernel, by decide +kernel, by decide +kernel, by decide +kernel⟩
set_option maxRecDepth 20000 in
theorem cl_RX1_50 : ab_CV RX1 50 1 mX1_isFree 3 := ⟨⟨_, _, rfl⟩, ab_in (i := 750) rfl rfl, ab_in (i := 752) rfl rfl, ab_in (i := 21) rfl rfl, ab_in (i := 66) rfl rfl, ab_in (i := 753) rfl rfl, by decide +kernel, by decide +kernel, by decide +kernel, by decide +kernel⟩
set_option maxRecDepth 20000 in
theorem cl_RX1_54 : ab_CV RX1 54 1 mX1_apartBy 4 := ⟨⟨_, _, rfl⟩, ab_in (i := 754) rfl rfl, ab_in (i := 756) rfl rfl, ab_in (i := 22) rfl rfl, ab_in (i := 66) rfl rfl, ab_in (i := 757) rfl rfl, by decide +kernel, by decide +kernel, by decide +kernel, by decide +kernel⟩
set_option maxRecDepth 20000 in
theorem cl_RX1_64 : ab_CV RX1 64 8 mX8_lengthOf 1 := ⟨⟨_, _, rfl⟩, ab_in (i := 758) rfl rfl, ab_in (i := 533) rfl rfl, ab_in (i := 534) rfl rfl, ab_in (i := 61) rfl rfl, ab_in (i := 535) rfl rfl, by decide +kernel, by decide +kernel, by decide +kernel, by decide +kernel⟩
set_option maxRecDepth 20000 in
theorem cl_RX3_36 : ab_CV RX3 36 8 mX8_measureNow 2 := ⟨⟨_, _, rfl⟩, ab_in (i := 814) rfl rfl, ab_in (i := 537) rfl rfl, ab_in (i := 538) rfl rfl, ab_in (i := 61) rfl rfl, ab_in (i := 539) rfl rfl, by decide +kernel, by decide +kernel, by decide +kernel, by decide +kernel⟩
set_option maxRecDepth 20000 in
theorem cl_RX3_42 : ab_CV RX3 42 3 mX3_fitsAll 1 := ⟨⟨_, _, rfl⟩, ab_in (i := 815) rfl rfl, ab_in (i := 817) rfl rfl, ab_in (i := 24) rfl rfl, ab_in (i := 63) rfl rfl, ab_in (i := 818) rfl rfl, by decide +kernel, by decide +kernel, by decide +kernel, by decide +kernel⟩
set_option maxRecDepth 20000 in
theorem cl_RX4_30 : ab_CV RX4 30 4 mX4_latestPlace 0 := ⟨⟨_, _, rfl⟩, ab_in (i := 598) rfl rfl, ab_in (i := 600) rfl rfl, ab_in (i := 14) rfl rfl, ab_in (i := 62) rfl rfl, ab_in (i := 601) rfl rfl, by decide +kernel, by decide +kernel, by decide +kernel, by decide +kernel⟩
set_option maxRecDepth 20000 in
theorem cl_RX6_11 : ab_CI RX6 11 mX2_init 0 := ⟨Or.inr ⟨"LimbMeasures", ab_iu (i := 87) rfl rfl⟩, ab_in (i := 88) rfl rfl, rfl, rfl, ab_in (i := 59) rfl rfl, ab_in (i := 89) rfl rfl, by decide +kernel, by decide +kernel, by decide +kernel, by decide +kernel⟩
set_option maxRecDepth 20000 in
theorem cl_RX6_20 : ab_CI RX6 20 mX5_init 0 := ⟨Or.inr ⟨"LimbMeasures", ab_iu (i := 102) rfl rfl⟩, ab_in (i := 103) rfl rfl, rfl, rfl, ab_in (i := 60) rfl rfl, ab_in (i := 104) rfl rfl, by decide +kernel, by decide +kernel, by decide +kernel, by decide +kernel⟩
set_option maxRecDepth 20000 in
theorem cl_RX6_39 : ab_CV RX6 39 5 mX5_clearAll 0 := ⟨⟨_, _, rfl⟩, ab_in (i := 382) rfl rfl, ab_in (i := 383) rfl rfl, ab_in (i := 384) rfl rfl, ab_in (i := 60) rfl rfl, ab_in (i := 385) rfl rfl, by decide +kernel, by decide +kernel, by decide +kernel, by decide +kernel⟩
set_option maxRecDepth 20000 in
theorem cl_RX6_42 : ab_CV RX6 42 6 mX6_skipBlanks 0 := ⟨⟨_, _, rfl⟩, ab_in (i := 386) rfl rfl, ab_in (i := 388) rfl rfl, ab_in (i := 0) rfl rfl, ab_in (i := 58) rfl rfl, ab_in (i := 389) rfl rfl, by decide +kernel, by decide +kernel, by decide +kernel, by decide +kernel⟩
set_option maxRecDepth 20000 in
theorem cl_RX6_45 : ab_CV RX6 45 2 mX2_at 1 := ⟨⟨_, _, rfl⟩, ab_in (i := 390) rfl rfl, ab_in (i := 391) rfl rfl, ab_in (i := 392) rfl rfl, ab_in (i := 59) rfl rfl, ab_in (i := 393) rfl rfl, by decide +kernel, by decide +kernel, by decide +kernel, by decide +kernel⟩
set_option maxRecDepth 20000 in
theorem cl_RX6_49 : ab_CV RX6 49 6 mX6_readClause 0 := ⟨⟨_, _, rfl⟩, ab_in (i := 394) rfl rfl, ab_in (i := 396) rfl rfl, ab_in (i := 1) rfl rfl, ab_in (i := 58) rfl rfl, ab_in (i := 397) rfl rfl, by decide +kernel, by decide +kernel, by decide +kernel, by decide +kernel⟩
set_option maxRecDepth 20000 in
theorem cl_RX6_53 : ab_CV RX6 53 6 mX6_mayStart 1 := ⟨⟨_, _, rfl⟩, ab_in (i := 398) rfl rfl, ab_in (i := 400) rfl rfl, ab_in (i := 2) rfl rfl, ab_in (i := 58) rfl rfl, ab_in (i := 401) rfl rfl, by decide +kernel, by decide +kernel, by decide +kernel, by decide +kernel⟩
set_option maxRecDepth 20000 in
theorem cl_RX6_57 : ab_CV RX6 57 6 mX6_fail 2 := ⟨⟨_, _, rfl⟩, ab_in (i := 402) rfl rfl, ab_in (i := 404) rfl rfl, ab_in (i := 3) rfl rfl, ab_in (i := 58) rfl rfl, ab_in (i := 405) rfl rfl, by decide +kernel, by decide +kernel, by decide +kernel, by decide +kernel⟩
set_option maxRecDepth 20000 in
theorem cl_RX6_61 : ab_CV RX6 61 6 mX6_isOneTooMany 1 := ⟨⟨_, _, rfl⟩, ab_in (i := 406) rfl rfl, ab_in (i := 408) rfl rfl, ab_in (i := 4) rfl rfl, ab_in (i := 58) rfl rfl, ab_in (i := 409) rfl rfl, by decide +kernel, by decide +kernel, by decide +kernel, by decide +kernel⟩
set_option maxRecDepth 20000 in
theorem cl_RX6_64 : ab_CV RX6 64 6 mX6_readLimb 0 := ⟨⟨_, _, rfl⟩, ab_in (i := 410) rfl rfl, ab_in (i := 412) rfl rfl, ab_in (i := 5) rfl rfl, ab_in (i := 58) rfl rfl, ab_in (i := 413) rfl rfl, by decide +kernel, by decide +kernel, by decide +kernel, by decide +kernel⟩
set_option maxRecDepth 20000 in
theorem cl_RX6_67 : ab_CV RX6 67 6 mX6_readContract 0 := ⟨⟨_, _, rfl⟩, ab_in (i := 435) rfl rfl, ab_in (i := 437) rfl rfl, ab_in (i := 8) rfl rfl, ab_in (i := 58) rfl rfl, ab_in (i := 438) rfl rfl, by decide +kernel, by decide +kernel, by decide +kernel, by decide +kernel⟩
set_option maxRecDepth 20000 in
theorem cl_RX6_70 : ab_CV RX6 70 6 mX6_readRate 0 := ⟨⟨_, _, rfl⟩, ab_in (i := 443) rfl rfl, ab_in (i := 445) rfl rfl, ab_in (i := 9) rfl rfl, ab_in (i := 58) rfl rfl, ab_in (i := 446) rfl rfl, by decide +kernel, by decide +kernel, by decide +kernel, by decide +kernel⟩
set_option maxRecDepth 20000 in
theorem cl_RX6_73 : ab_CV RX6 73 6 mX6_readHeir 0 := ⟨⟨_, _, rfl⟩, ab_in (i := 455) rfl rfl, ab_in (i := 457) rfl rfl, ab_in (i := 11) rfl rfl, ab_in (i := 58) rfl rfl, ab_in (i := 458) rfl rfl, by decide +kernel, by decide +kernel, by decide +kernel, by decide +kernel⟩
set_option maxRecDepth 20000 in
theorem cl_RX6_85 : ab_CV RX6 85 6 mX6_readNumber 3 := ⟨⟨_, _, rfl⟩, ab_in (i := 414) rfl rfl, ab_in (i := 416) rfl rfl, ab_in (i := 6) rfl rfl, ab_in (i := 58) rfl rfl, ab_in (i := 417) rfl rfl, by decide +kernel, by decide +kernel, by decide +kernel, by decide +kernel⟩
set_option maxRecDepth 20000 in
theorem cl_RX6_89 : ab_CV RX6 89 6 mX6_readClose 0 := ⟨⟨_, _, rfl⟩, ab_in (i := 424) rfl rfl, ab_in (i := 426) rfl rfl, ab_in (i := 7) rfl rfl, ab_in (i := 58) rfl rfl, ab_in (i := 427) rfl rfl, by decide +kernel, by decide +kernel, by decide +kernel, by decide +kernel⟩
set_option maxRecDepth 20000 in
theorem cl_RX6_92 : ab_CV RX6 92 5 mX5_addLimb 1 := ⟨⟨_, _, rfl⟩, ab_in (i := 428) rfl rfl, ab_in (i := 429) rfl rfl, ab_in (i := 430) rfl rfl, ab_in (i := 60) rfl rfl, ab_in (i := 431) rfl rfl, by decide +kernel, by decide +kernel, by decide +kernel, by decide +kernel⟩
set_option maxRecDepth 20000 in
theorem cl_RX6_96 : ab_CV RX6 96 5 mX5_addContract 1 := ⟨⟨_, _, rfl⟩, ab_in (i := 439) rfl rfl, ab_in (i := 440) rfl rfl, ab_in (i := 441) rfl rfl, ab_in (i := 60) rfl rfl, ab_in (i := 442) rfl rfl, by decide +kernel, by decide +kernel, by decide +kernel, by decide +kernel⟩
set_option maxRecDepth 20000 in
theorem cl_RX6_99 : ab_CV RX6 99 6 mX6_isUnlike 0 := ⟨⟨_, _, rfl⟩, ab_in (i := 447) rfl rfl, ab_in (i := 449) rfl rfl, ab_in (i := 10) rfl rfl, ab_in (i := 58) rfl rfl, ab_in (i := 450) rfl rfl, by decide +kernel, by decide +kernel, by decide +kernel, by decide +kernel⟩
set_option maxRecDepth 20000 in
theorem cl_RX6_102 : ab_CV RX6 102 5 mX5_addRate 1 := ⟨⟨_, _, rfl⟩, ab_in (i := 451) rfl rfl, ab_in (i := 452) rfl rfl, ab_in (i := 453) rfl rfl, ab_in (i := 60) rfl rfl, ab_in (i := 454) rfl rfl, by decide +kernel, by decide +kernel, by decide +kernel, by decide +kernel⟩
set_option maxRecDepth 20000 in
theorem cl_RX6_105 : ab_CV RX6 105 6 mX6_isWithoutHeir 0 := ⟨⟨_, _, rfl⟩, ab_in (i := 459) rfl rfl, ab_in (i := 461) rfl rfl, ab_in (i := 12) rfl rfl, ab_in (i := 58) rfl rfl, ab_in (i := 462) rfl rfl, by decide +kernel, by decide +kernel, by decide +kernel, by decide +kernel⟩
set_option maxRecDepth 20000 in
theorem cl_RX6_108 : ab_CV RX6 108 5 mX5_addHeir 1 := ⟨⟨_, _, rfl⟩, ab_in (i := 463) rfl rfl, ab_in (i := 464) rfl rfl, ab_in (i := 465) rfl rfl, ab_in (i := 60) rfl rfl, ab_in (i := 466) rfl rfl, by decide +kernel, by decide +kernel, by decide +kernel, by decide +kernel⟩
set_option maxRecDepth 20000 in
theorem cl_RX6_117 : ab_CS RX6 117 mX6_isFigure 1 := ⟨ab_in (i := 418) rfl rfl, ab_in (i := 419) rfl rfl, ab_in (i := 58) rfl rfl, ab_in (i := 420) rfl rfl, by decide +kernel, by decide +kernel, by decide +kernel, by decide +kernel⟩
set_option maxRecDepth 20000 in
theorem cl_RX7_19 : ab_CV RX7 19 7 mX7_extend 5 := ⟨⟨_, _, rfl⟩, ab_in (i := 711) rfl rfl, ab_in (i := 713) rfl rfl, ab_in (i := 18) rfl rfl, ab_in (i := 65) rfl rfl, ab_in (i := 714) rfl rfl, by decide +kernel, by decide +kernel, by decide +kernel, by decide +kernel⟩
set_option maxRecDepth 20000 in
theorem cl_RX7_40 : ab_CV RX7 40 7 mX7_gainsWithLess 2 := ⟨⟨_, _, rfl⟩, ab_in (i := 723) rfl rfl, ab_in (i := 725) rfl rfl, ab_in (i := 19) rfl rfl, ab_in (i := 65) rfl rfl, ab_in (i := 726) rfl rfl, by decide +kernel, by decide +kernel, by decide +kernel, by decide +kernel⟩
set_option maxRecDepth 20000 in
theorem cl_RX8_36 : ab_CV RX8 36 5 mX5_addedIn 2 := ⟨⟨_, _, rfl⟩, ab_in (i := 552) rfl rfl, ab_in (i := 553) rfl rfl, ab_in (i := 554) rfl rfl, ab_in (i := 60) rfl rfl, ab_in (i := 555) rfl rfl, by decide +kernel, by decide +kernel, by decide +kernel, by decide +kernel⟩
set_option maxRecDepth 20000 in
theorem cl_RX8_39 : ab_CV RX8 39 8 mX8_lives 1 := ⟨⟨_, _, rfl⟩, ab_in (i := 544) rfl rfl, ab_in (i := 545) rfl rfl, ab_in (i := 546) rfl rfl, ab_in (i := 61) rfl rfl, ab_in (i := 547) rfl rfl, by decide +kernel, by decide +kernel, by decide +kernel, by decide +kernel⟩
set_option maxRecDepth 20000 in
theorem cl_RX8_43 : ab_CV RX8 43 8 mX8_ownMeasure 3 := ⟨⟨_, _, rfl⟩, ab_in (i := 548) rfl rfl, ab_in (i := 549) rfl rfl, ab_in (i := 550) rfl rfl, ab_in (i := 61) rfl rfl, ab_in (i := 551) rfl rfl, by decide +kernel, by decide +kernel, by decide +kernel, by decide +kernel⟩
set_option maxRecDepth 20000 in
theorem cl_RX8_50 : ab_CV RX8 50 8 mX8_measure 3 := ⟨⟨_, _, rfl⟩, ab_in (i := 540) rfl rfl, ab_in (i := 541) rfl rfl, ab_in (i := 542) rfl rfl, ab_in (i := 61) rfl rfl, ab_in (i := 543) rfl rfl, by decide +kernel, by decide +kernel, by decide +kernel, by decide +kernel⟩
set_option maxRecDepth 20000 in
theorem cl_RX8_69 : ab_CV RX8 69 8 mX8_payment 3 := ⟨⟨_, _, rfl⟩, ab_in (i := 607) rfl rfl, ab_in (i := 608) rfl rfl, ab_in (i := 609) rfl rfl, ab_in (i := 61) rfl rfl, ab_in (i := 610) rfl rfl, by decide +kernel, by decide +kernel, by decide +kernel, by decide +kernel⟩
set_option maxRecDepth 20000 in
theorem cl_RX8_75 : ab_CV RX8 75 8 mX8_nextDraw 1 := ⟨⟨_, _, rfl⟩, ab_in (i := 656) rfl rfl, ab_in (i := 658) rfl rfl, ab_in (i := 16) rfl rfl, ab_in (i := 61) rfl rfl, ab_in (i := 659) rfl rfl, by decide +kernel, by decide +kernel, by decide +kernel, by decide +kernel⟩
set_option maxRecDepth 20000 in
theorem cl_RX8_78 : ab_CV RX8 78 8 mX8_swell 2 := ⟨⟨_, _, rfl⟩, ab_in (i := 664) rfl rfl, ab_in (i := 616) rfl rfl, ab_in (i := 617) rfl rfl, ab_in (i := 61) rfl rfl, ab_in (i := 618) rfl rfl, by decide +kernel, by decide +kernel, by decide +kernel, by decide +kernel⟩
set_option maxRecDepth 20000 in
theorem cl_RX8_82 : ab_CV RX8 82 8 mX8_shorten 1 := ⟨⟨_, _, rfl⟩, ab_in (i := 665) rfl rfl, ab_in (i := 629) rfl rfl, ab_in (i := 630) rfl rfl, ab_in (i := 61) rfl rfl, ab_in (i := 631) rfl rfl, by decide +kernel, by decide +kernel, by decide +kernel, by decide +kernel⟩
set_option maxRecDepth 20000 in
theorem cl_RX9_9 : ab_CI RX9 9 mX6_init 0 := ⟨Or.inr ⟨"LimbMeasures", ab_iu (i := 81) rfl rfl⟩, ab_in (i := 82) rfl rfl, rfl, rfl, ab_in (i := 58) rfl rfl, ab_in (i := 83) rfl rfl, by decide +kernel, by decide +kernel, by decide +kernel, by decide +kernel⟩
set_option maxRecDepth 20000 in
theorem cl_RX9_18 : ab_CI RX9 18 mX5_init 0 := ⟨Or.inr ⟨"LimbMeasures", ab_iu (i := 202) rfl rfl⟩, ab_in (i := 103) rfl rfl, rfl, rfl, ab_in (i := 60) rfl rfl, ab_in (i := 104) rfl rfl, by decide +kernel, by decide +kernel, by decide +kernel, by decide +kernel⟩
set_option maxRecDepth 20000 in
theorem cl_RX9_25 : ab_CI RX9 25 mX8_init 0 := ⟨Or.inl (ab_in (i := 205) rfl rfl), ab_in (i := 206) rfl rfl, rfl, rfl, ab_in (i := 61) rfl rfl, ab_in (i := 207) rfl rfl, by decide +kernel, by decide +kernel, by decide +kernel, by decide +kernel⟩
set_option maxRecDepth 20000 in
theorem cl_RX9_32 : ab_CI RX9 32 mX4_init 0 := ⟨Or.inr ⟨"LimbMeasures", ab_iu (i := 216) rfl rfl⟩, ab_in (i := 217) rfl rfl, rfl, rfl, ab_in (i := 62) rfl rfl, ab_in (i := 218) rfl rfl, by decide +kernel, by decide +kernel, by decide +kernel, by decide +kernel⟩
set_option maxRecDepth 20000 in
theorem cl_RX9_39 : ab_CI RX9 39 mX3_init 0 := ⟨Or.inr ⟨"LimbMeasures", ab_iu (i := 239) rfl rfl⟩, ab_in (i := 240) rfl rfl, rfl, rfl, ab_in (i := 63) rfl rfl, ab_in (i := 241) rfl rfl, by decide +kernel, by decide +kernel, by decide +kernel, by decide +kernel⟩
set_option maxRecDepth 20000 in
theorem cl_RX9_46 : ab_CI RX9 46 mX0_init 0 := ⟨Or.inr ⟨"LimbMeasures", ab_iu (i := 266) rfl rfl⟩, ab_in (i := 267) rfl rfl, rfl, rfl, ab_in (i := 64) rfl rfl, ab_in (i := 268) rfl rfl, by decide +kernel, by decide +kernel, by decide +kernel, by decide +kernel⟩
set_option maxRecDepth 20000 in
theorem cl_RX9_53 : ab_CI RX9 53 mX7_init 0 := ⟨Or.inr ⟨"LimbMeasures", ab_iu (i := 299) rfl rfl⟩, ab_in (i := 300) rfl rfl, rfl, rfl, ab_in (i := 65) rfl rfl, ab_in (i := 301) rfl rfl, by decide +kernel, by decide +kernel, by decide +kernel, by decide +kernel⟩
set_option maxRecDepth 20000 in
theorem cl_RX9_60 : ab_CI RX9 60 mX1_init 0 := ⟨Or.inr ⟨"LimbMeasures", ab_iu (i := 314) rfl rfl⟩, ab_in (i := 315) rfl rfl, rfl, rfl, ab_in (i := 66) rfl rfl, ab_in (i := 316) rfl rfl, by decide +kernel, by decide +kernel, by decide +kernel, by decide +kernel⟩
set_option maxRecDepth 20000 in
theorem cl_RX9_74 : ab_CV RX9 74 2 mX2_isFull 0 := ⟨⟨_, _, rfl⟩, ab_in (i := 365) rfl rfl, ab_in (i := 366) rfl rfl, ab_in (i := 367) rfl rfl, ab_in (i := 59) rfl rfl, ab_in (i := 368) rfl rfl, by decide +kernel, by decide +kernel, by decide +kernel, by decide +kernel⟩
set_option maxRecDepth 20000 in
theorem cl_RX9_81 : ab_CV RX9 81 2 mX2_append 1 := ⟨⟨_, _, rfl⟩, ab_in (i := 370) rfl rfl, ab_in (i := 371) rfl rfl, ab_in (i := 372) rfl rfl, ab_in (i := 59) rfl rfl, ab_in (i := 373) rfl rfl, by decide +kernel, by decide +kernel, by decide +kernel, by decide +kernel⟩
set_option maxRecDepth 20000 in
theorem cl_RX9_85 : ab_CV RX9 85 6 mX6_readText 0 := ⟨⟨_, _, rfl⟩, ab_in (i := 378) rfl rfl, ab_in (i := 379) rfl rfl, ab_in (i := 380) rfl rfl, ab_in (i := 58) rfl rfl, ab_in (i := 381) rfl rfl, by decide +kernel, by decide +kernel, by decide +kernel, by decide +kernel⟩
set_option maxRecDepth 20000 in
theorem cl_RX9_88 : ab_CV RX9 88 2 mX2_empty 0 := ⟨⟨_, _, rfl⟩, ab_in (i := 467) rfl rfl, ab_in (i := 468) rfl rfl, ab_in (i := 469) rfl rfl, ab_in (i := 59) rfl rfl, ab_in (i := 470) rfl rfl, by decide +kernel, by decide +kernel, by decide +kernel, by decide +kernel⟩
set_option maxRecDepth 20000 in
theorem cl_RX9_98 : ab_CV RX9 98 5 mX5_takeOver 1 := ⟨⟨_, _, rfl⟩, ab_in (i := 471) rfl rfl, ab_in (i := 472) rfl rfl, ab_in (i := 473) rfl rfl, ab_in (i := 60) rfl rfl, ab_in (i := 474) rfl rfl, by decide +kernel, by decide +kernel, by decide +kernel, by decide +kernel⟩
set_option maxRecDepth 20000 in
theorem cl_RX9_102 : ab_CV RX9 102 8 mX8_begin 1 := ⟨⟨_, _, rfl⟩, ab_in (i := 475) rfl rfl, ab_in (i := 476) rfl rfl, ab_in (i := 477) rfl rfl, ab_in (i := 61) rfl rfl, ab_in (i := 478) rfl rfl, by decide +kernel, by decide +kernel, by decide +kernel, by decide +kernel⟩
set_option maxRecDepth 20000 in
theorem cl_RX9_105 : ab_CV RX9 105 3 mX3_clearAll 0 := ⟨⟨_, _, rfl⟩, ab_in (i := 480) rfl rfl, ab_in (i := 481) rfl rfl, ab_in (i := 482) rfl rfl, ab_in (i := 63) rfl rfl, ab_in (i := 483) rfl rfl, by decide +kernel, by decide +kernel, by decide +kernel, by decide +kernel⟩
set_option maxRecDepth 20000 in
theorem cl_RX9_108 : ab_CV RX9 108 4 mX4_forgetUndone 0 := ⟨⟨_, _, rfl⟩, ab_in (i := 484) rfl rfl, ab_in (i := 485) rfl rfl, ab_in (i := 486) rfl rfl, ab_in (i := 62) rfl rfl, ab_in (i := 487) rfl rfl, by decide +kernel, by decide +kernel, by decide +kernel, by decide +kernel⟩
set_option maxRecDepth 20000 in
theorem cl_RX9_111 : ab_CV RX9 111 4 mX4_forgetImages 0 := ⟨⟨_, _, rfl⟩, ab_in (i := 488) rfl rfl, ab_in (i := 489) rfl rfl, ab_in (i := 490) rfl rfl, ab_in (i := 62) rfl rfl, ab_in (i := 491) rfl rfl, by decide +kernel, by decide +kernel, by decide +kernel, by decide +kernel⟩
set_option maxRecDepth 20000 in
theorem cl_RX9_126 : ab_CV RX9 126 8 mX8_seasons 0 := ⟨⟨_, _, rfl⟩, ab_in (i := 500) rfl rfl, ab_in (i := 501) rfl rfl, ab_in (i := 502) rfl rfl, ab_in (i := 61) rfl rfl, ab_in (i := 503) rfl rfl, by decide +kernel, by decide +kernel, by decide +kernel, by decide +kernel⟩
set_option maxRecDepth 20000 in
theorem cl_RX9_130 : ab_CV RX9 130 8 mX8_living 0 := ⟨⟨_, _, rfl⟩, ab_in (i := 504) rfl rfl, ab_in (i := 505) rfl rfl, ab_in (i := 506) rfl rfl, ab_in (i := 61) rfl rfl, ab_in (i := 507) rfl rfl, by decide +kernel, by decide +kernel, by decide +kernel, by decide +kernel⟩
set_option maxRecDepth 20000 in
theorem cl_RX9_133 : ab_CV RX9 133 8 mX8_copied 0 := ⟨⟨_, _, rfl⟩, ab_in (i := 508) rfl rfl, ab_in (i := 509) rfl rfl, ab_in (i := 510) rfl rfl, ab_in (i := 61) rfl rfl, ab_in (i := 511) rfl rfl, by decide +kernel, by decide +kernel, by decide +kernel, by decide +kernel⟩
set_option maxRecDepth 20000 in
theorem cl_RX9_136 : ab_CV RX9 136 8 mX8_paidTogether 0 := ⟨⟨_, _, rfl⟩, ab_in (i := 512) rfl rfl, ab_in (i := 513) rfl rfl, ab_in (i := 514) rfl rfl, ab_in (i := 61) rfl rfl, ab_in (i := 515) rfl rfl, by decide +kernel, by decide +kernel, by decide +kernel, by decide +kernel⟩
set_option maxRecDepth 20000 in
theorem cl_RX9_139 : ab_CV RX9 139 8 mX8_noughts 0 := ⟨⟨_, _, rfl⟩, ab_in (i := 519) rfl rfl, ab_in (i := 520) rfl rfl, ab_in (i := 521) rfl rfl, ab_in (i := 61) rfl rfl, ab_in (i := 522) rfl rfl, by decide +kernel, by decide +kernel, by decide +kernel, by decide +kernel⟩
set_option maxRecDepth 20000 in
theorem cl_RX9_151 : ab_CV RX9 151 5 mX5_hasLimb 1 := ⟨⟨_, _, rfl⟩, ab_in (i := 527) rfl rfl, ab_in (i := 528) rfl rfl, ab_in (i := 529) rfl rfl, ab_in (i := 60) rfl rfl, ab_in (i := 530) rfl rfl, by decide +kernel, by decide +kernel, by decide +kernel, by decide +kernel⟩
set_option maxRecDepth 20000 in
theorem cl_RX9_156 : ab_CV RX9 156 8 mX8_lengthOf 1 := ⟨⟨_, _, rfl⟩, ab_in (i := 532) rfl rfl, ab_in (i := 533) rfl rfl, ab_in (i := 534) rfl rfl, ab_in (i := 61) rfl rfl, ab_in (i := 535) rfl rfl, by decide +kernel, by decide +kernel, by decide +kernel, by decide +kernel⟩
set_option maxRecDepth 20000 in
theorem cl_RX9_159 : ab_CV RX9 159 8 mX8_measureNow 2 := ⟨⟨_, _, rfl⟩, ab_in (i := 536) rfl rfl, ab_in (i := 537) rfl rfl, ab_in (i := 538) rfl rfl, ab_in (i := 61) rfl rfl, ab_in (i := 539) rfl rfl, by decide +kernel, by decide +kernel, by decide +kernel, by decide +kernel⟩
set_option maxRecDepth 20000 in
theorem cl_RX9_167 : ab_CV RX9 167 8 mX8_lives 1 := ⟨⟨_, _, rfl⟩, ab_in (i := 556) rfl rfl, ab_in (i := 545) rfl rfl, ab_in (i := 546) rfl rfl, ab_in (i := 61) rfl rfl, ab_in (i := 547) rfl rfl, by decide +kernel, by decide +kernel, by decide +kernel, by decide +kernel⟩
set_option maxRecDepth 20000 in
theorem cl_RX9_170 : ab_CV RX9 170 8 mX8_copyOf 1 := ⟨⟨_, _, rfl⟩, ab_in (i := 557) rfl rfl, ab_in (i := 558) rfl rfl, ab_in (i := 559) rfl rfl, ab_in (i := 61) rfl rfl, ab_in (i := 560) rfl rfl, by decide +kernel, by decide +kernel, by decide +kernel, by decide +kernel⟩
set_option maxRecDepth 20000 in
theorem cl_RX9_173 : ab_CV RX9 173 5 mX5_addedAsTold 2 := ⟨⟨_, _, rfl⟩, ab_in (i := 561) rfl rfl, ab_in (i := 562) rfl rfl, ab_in (i := 563) rfl rfl, ab_in (i := 60) rfl rfl, ab_in (i := 564) rfl rfl, by decide +kernel, by decide +kernel, by decide +kernel, by decide +kernel⟩
set_option maxRecDepth 20000 in
theorem cl_RX9_177 : ab_CV RX9 177 5 mX5_hasContract 1 := ⟨⟨_, _, rfl⟩, ab_in (i := 569) rfl rfl, ab_in (i := 570) rfl rfl, ab_in (i := 571) rfl rfl, ab_in (i := 60) rfl rfl, ab_in (i := 572) rfl rfl, by decide +kernel, by decide +kernel, by decide +kernel, by decide +kernel⟩
set_option maxRecDepth 20000 in
theorem cl_RX9_189 : ab_CV RX9 189 8 mX8_paidOf 1 := ⟨⟨_, _, rfl⟩, ab_in (i := 573) rfl rfl, ab_in (i := 574) rfl rfl, ab_in (i := 575) rfl rfl, ab_in (i := 61) rfl rfl, ab_in (i := 576) rfl rfl, by decide +kernel, by decide +kernel, by decide +kernel, by decide +kernel⟩
set_option maxRecDepth 20000 in
theorem cl_RX9_192 : ab_CV RX9 192 5 mX5_hasRate 1 := ⟨⟨_, _, rfl⟩, ab_in (i := 581) rfl rfl, ab_in (i := 582) rfl rfl, ab_in (i := 583) rfl rfl, ab_in (i := 60) rfl rfl, ab_in (i := 584) rfl rfl, by decide +kernel, by decide +kernel, by decide +kernel, by decide +kernel⟩
set_option maxRecDepth 20000 in
theorem cl_RX9_207 : ab_CV RX9 207 9 mX9_refusalOfSeasons 1 := ⟨⟨_, _, rfl⟩, ab_in (i := 589) rfl rfl, ab_in (i := 591) rfl rfl, ab_in (i := 13) rfl rfl, ab_in (i := 57) rfl rfl, ab_in (i := 592) rfl rfl, by decide +kernel, by decide +kernel, by decide +kernel, by decide +kernel⟩
set_option maxRecDepth 20000 in
theorem cl_RX9_210 : ab_CV RX9 210 4 mX4_remember 1 := ⟨⟨_, _, rfl⟩, ab_in (i := 594) rfl rfl, ab_in (i := 595) rfl rfl, ab_in (i := 596) rfl rfl, ab_in (i := 62) rfl rfl, ab_in (i := 597) rfl rfl, by decide +kernel, by decide +kernel, by decide +kernel, by decide +kernel⟩
set_option maxRecDepth 20000 in
theorem cl_RX9_214 : ab_CV RX9 214 8 mX8_passSeason 1 := ⟨⟨_, _, rfl⟩, ab_in (i := 603) rfl rfl, ab_in (i := 604) rfl rfl, ab_in (i := 605) rfl rfl, ab_in (i := 61) rfl rfl, ab_in (i := 606) rfl rfl, by decide +kernel, by decide +kernel, by decide +kernel, by decide +kernel⟩
set_option maxRecDepth 20000 in
theorem cl_RX9_218 : ab_CV RX9 218 8 mX8_swell 2 := ⟨⟨_, _, rfl⟩, ab_in (i := 615) rfl rfl, ab_in (i := 616) rfl rfl, ab_in (i := 617) rfl rfl, ab_in (i := 61) rfl rfl, ab_in (i := 618) rfl rfl, by decide +kernel, by decide +kernel, by decide +kernel, by decide +kernel⟩
set_option maxRecDepth 20000 in
theorem cl_RX9_222 : ab_CV RX9 222 9 mX9_refusalOfLiving 1 := ⟨⟨_, _, rfl⟩, ab_in (i := 624) rfl rfl, ab_in (i := 626) rfl rfl, ab_in (i := 15) rfl rfl, ab_in (i := 57) rfl rfl, ab_in (i := 627) rfl rfl, by decide +kernel, by decide +kernel, by decide +kernel, by decide +kernel⟩
set_option maxRecDepth 20000 in
theorem cl_RX9_225 : ab_CV RX9 225 8 mX8_shorten 1 := ⟨⟨_, _, rfl⟩, ab_in (i := 628) rfl rfl, ab_in (i := 629) rfl rfl, ab_in (i := 630) rfl rfl, ab_in (i := 61) rfl rfl, ab_in (i := 631) rfl rfl, by decide +kernel, by decide +kernel, by decide +kernel, by decide +kernel⟩
set_option maxRecDepth 20000 in
theorem cl_RX9_229 : ab_CV RX9 229 8 mX8_bury 1 := ⟨⟨_, _, rfl⟩, ab_in (i := 636) rfl rfl, ab_in (i := 637) rfl rfl, ab_in (i := 638) rfl rfl, ab_in (i := 61) rfl rfl, ab_in (i := 639) rfl rfl, by decide +kernel, by decide +kernel, by decide +kernel, by decide +kernel⟩
set_option maxRecDepth 20000 in
theorem cl_RX9_232 : ab_CV RX9 232 8 mX8_carve 2 := ⟨⟨_, _, rfl⟩, ab_in (i := 644) rfl rfl, ab_in (i := 645) rfl rfl, ab_in (i := 646) rfl rfl, ab_in (i := 61) rfl rfl, ab_in (i := 647) rfl rfl, by decide +kernel, by decide +kernel, by decide +kernel, by decide +kernel⟩
set_option maxRecDepth 20000 in
theorem cl_RX9_236 : ab_CV RX9 236 8 mX8_sufferByDraws 1 := ⟨⟨_, _, rfl⟩, ab_in (i := 652) rfl rfl, ab_in (i := 653) rfl rfl, ab_in (i := 654) rfl rfl, ab_in (i := 61) rfl rfl, ab_in (i := 655) rfl rfl, by decide +kernel, by decide +kernel, by decide +kernel, by decide +kernel⟩
set_option maxRecDepth 20000 in
theorem cl_RX9_239 : ab_CV RX9 239 4 mX4_restoreLatest 1 := ⟨⟨_, _, rfl⟩, ab_in (i := 670) rfl rfl, ab_in (i := 671) rfl rfl, ab_in (i := 672) rfl rfl, ab_in (i := 62) rfl rfl, ab_in (i := 673) rfl rfl, by decide +kernel, by decide +kernel, by decide +kernel, by decide +kernel⟩
set_option maxRecDepth 20000 in
theorem cl_RX9_242 : ab_CV RX9 242 8 mX8_payment 3 := ⟨⟨_, _, rfl⟩, ab_in (i := 678) rfl rfl, ab_in (i := 608) rfl rfl, ab_in (i := 609) rfl rfl, ab_in (i := 61) rfl rfl, ab_in (i := 610) rfl rfl, by decide +kernel, by decide +kernel, by decide +kernel, by decide +kernel⟩
set_option maxRecDepth 20000 in
theorem cl_RX9_246 : ab_CV RX9 246 0 mX0_search 2 := ⟨⟨_, _, rfl⟩, ab_in (i := 687) rfl rfl, ab_in (i := 688) rfl rfl, ab_in (i := 689) rfl rfl, ab_in (i := 64) rfl rfl, ab_in (i := 690) rfl rfl, by decide +kernel, by decide +kernel, by decide +kernel, by decide +kernel⟩
set_option maxRecDepth 20000 in
theorem cl_RX9_250 : ab_CV RX9 250 0 mX0_isFound 0 := ⟨⟨_, _, rfl⟩, ab_in (i := 699) rfl rfl, ab_in (i := 700) rfl rfl, ab_in (i := 701) rfl rfl, ab_in (i := 64) rfl rfl, ab_in (i := 702) rfl rfl, by decide +kernel, by decide +kernel, by decide +kernel, by decide +kernel⟩
set_option maxRecDepth 20000 in
theorem cl_RX9_259 : ab_CV RX9 259 7 mX7_search 1 := ⟨⟨_, _, rfl⟩, ab_in (i := 707) rfl rfl, ab_in (i := 708) rfl rfl, ab_in (i := 709) rfl rfl, ab_in (i := 65) rfl rfl, ab_in (i := 710) rfl rfl, by decide +kernel, by decide +kernel, by decide +kernel, by decide +kernel⟩
set_option maxRecDepth 20000 in
theorem cl_RX9_267 : ab_CV RX9 267 7 mX7_leastMending 1 := ⟨⟨_, _, rfl⟩, ab_in (i := 719) rfl rfl, ab_in (i := 720) rfl rfl, ab_in (i := 721) rfl rfl, ab_in (i := 65) rfl rfl, ab_in (i := 722) rfl rfl, by decide +kernel, by decide +kernel, by decide +kernel, by decide +kernel⟩
set_option maxRecDepth 20000 in
theorem cl_RX9_271 : ab_CS RX9 271 mJ6_bitCount_0f7a4 1 := ⟨ab_in (i := 732) rfl rfl, ab_in (i := 733) rfl rfl, ab_in (i := 70) rfl rfl, ab_in (i := 734) rfl rfl, by decide +kernel, by decide +kernel, by decide +kernel, by decide +kernel⟩
set_option maxRecDepth 20000 in
theorem cl_RX9_276 : ab_CV RX9 276 1 mX1_search 1 := ⟨⟨_, _, rfl⟩, ab_in (i := 738) rfl rfl, ab_in (i := 739) rfl rfl, ab_in (i := 740) rfl rfl, ab_in (i := 66) rfl rfl, ab_in (i := 741) rfl rfl, by decide +kernel, by decide +kernel, by decide +kernel, by decide +kernel⟩
set_option maxRecDepth 20000 in
theorem cl_RX9_278 : ab_CV RX9 278 1 mX1_apartTogether 0 := ⟨⟨_, _, rfl⟩, ab_in (i := 767) rfl rfl, ab_in (i := 768) rfl rfl, ab_in (i := 769) rfl rfl, ab_in (i := 66) rfl rfl, ab_in (i := 770) rfl rfl, by decide +kernel, by decide +kernel, by decide +kernel, by decide +kernel⟩
set_option maxRecDepth 20000 in
theorem cl_RX9_284 : ab_CV RX9 284 8 mX8_measure 3 := ⟨⟨_, _, rfl⟩, ab_in (i := 775) rfl rfl, ab_in (i := 541) rfl rfl, ab_in (i := 542) rfl rfl, ab_in (i := 61) rfl rfl, ab_in (i := 543) rfl rfl, by decide +kernel, by decide +kernel, by decide +kernel, by decide +kernel⟩
set_option maxRecDepth 20000 in
theorem cl_RX9_295 : ab_CV RX9 295 8 mX8_apartFrom 3 := ⟨⟨_, _, rfl⟩, ab_in (i := 782) rfl rfl, ab_in (i := 783) rfl rfl, ab_in (i := 784) rfl rfl, ab_in (i := 61) rfl rfl, ab_in (i := 785) rfl rfl, by decide +kernel, by decide +kernel, by decide +kernel, by decide +kernel⟩
set_option maxRecDepth 20000 in
theorem cl_RX9_305 : ab_CV RX9 305 3 mX3_addGot 2 := ⟨⟨_, _, rfl⟩, ab_in (i := 802) rfl rfl, ab_in (i := 803) rfl rfl, ab_in (i := 804) rfl rfl, ab_in (i := 63) rfl rfl, ab_in (i := 805) rfl rfl, by decide +kernel, by decide +kernel, by decide +kernel, by decide +kernel⟩
set_option maxRecDepth 20000 in
theorem cl_RX9_308 : ab_CV RX9 308 3 mX3_fitting 2 := ⟨⟨_, _, rfl⟩, ab_in (i := 810) rfl rfl, ab_in (i := 811) rfl rfl, ab_in (i := 812) rfl rfl, ab_in (i := 63) rfl rfl, ab_in (i := 813) rfl rfl, by decide +kernel, by decide +kernel, by decide +kernel, by decide +kernel⟩
set_option maxRecDepth 20000 in
theorem cl_RX9_312 : ab_CV RX9 312 8 mX8_areUnlike 3 := ⟨⟨_, _, rfl⟩, ab_in (i := 823) rfl rfl, ab_in (i := 824) rfl rfl, ab_in (i := 825) rfl rfl, ab_in (i := 61) rfl rfl, ab_in (i := 826) rfl rfl, by decide +kernel, by decide +kernel, by decide +kernel, by decide +kernel⟩
set_option maxRecDepth 20000 in
theorem cl_RX9_316 : ab_CV RX9 316 3 mX3_addEntry 2 := ⟨⟨_, _, rfl⟩, ab_in (i := 831) rfl rfl, ab_in (i := 832) rfl rfl, ab_in (i := 833) rfl rfl, ab_in (i := 63) rfl rfl, ab_in (i := 834) rfl rfl, by decide +kernel, by decide +kernel, by decide +kernel, by decide +kernel⟩
set_option maxRecDepth 20000 in
theorem cl_RX9_319 : ab_CV RX9 319 3 mX3_firstWrong 2 := ⟨⟨_, _, rfl⟩, ab_in (i := 843) rfl rfl, ab_in (i := 844) rfl rfl, ab_in (i := 845) rfl rfl, ab_in (i := 63) rfl rfl, ab_in (i := 846) rfl rfl, by decide +kernel, by decide +kernel, by decide +kernel, by decide +kernel⟩
set_option maxRecDepth 20000 in
theorem cl_RX9_322 : ab_CV RX9 322 8 mX8_seedNow 0 := ⟨⟨_, _, rfl⟩, ab_in (i := 851) rfl rfl, ab_in (i := 852) rfl rfl, ab_in (i := 853) rfl rfl, ab_in (i := 61) rfl rfl, ab_in (i := 854) rfl rfl, by decide +kernel, by decide +kernel, by decide +kernel, by decide +kernel⟩
set_option maxRecDepth 20000 in
theorem cl_RX9_325 : ab_CV RX9 325 8 mX8_sow 1 := ⟨⟨_, _, rfl⟩, ab_in (i := 855) rfl rfl, ab_in (i := 856) rfl rfl, ab_in (i := 857) rfl rfl, ab_in (i := 61) rfl rfl, ab_in (i := 858) rfl rfl, by decide +kernel, by decide +kernel, by decide +kernel, by decide +kernel⟩
set_option maxRecDepth 20000 in
theorem cl_RX9_328 : ab_CS RX9 328 mX9_isImage 1 := ⟨ab_in (i := 863) rfl rfl, ab_in (i := 864) rfl rfl, ab_in (i := 57) rfl rfl, ab_in (i := 865) rfl rfl, by decide +kernel, by decide +kernel, by decide +kernel, by decide +kernel⟩
set_option maxRecDepth 20000 in
theorem cl_RX9_331 : ab_CV RX9 331 4 mX4_keepImage 2 := ⟨⟨_, _, rfl⟩, ab_in (i := 866) rfl rfl, ab_in (i := 867) rfl rfl, ab_in (i := 868) rfl rfl, ab_in (i := 62) rfl rfl, ab_in (i := 869) rfl rfl, by decide +kernel, by decide +kernel, by decide +kernel, by decide +kernel⟩
set_option maxRecDepth 20000 in
theorem cl_RX9_335 : ab_CV RX9 335 4 mX4_hasImage 1 := ⟨⟨_, _, rfl⟩, ab_in (i := 874) rfl rfl, ab_in (i := 875) rfl rfl, ab_in (i := 876) rfl rfl, ab_in (i := 62) rfl rfl, ab_in (i := 877) rfl rfl, by decide +kernel, by decide +kernel, by decide +kernel, by decide +kernel⟩
set_option maxRecDepth 20000 in
theorem cl_RX9_338 : ab_CV RX9 338 4 mX4_restoreImage 2 := ⟨⟨_, _, rfl⟩, ab_in (i := 878) rfl rfl, ab_in (i := 879) rfl rfl, ab_in (i := 880) rfl rfl, ab_in (i := 62) rfl rfl, ab_in (i := 881) rfl rfl, by decide +kernel, by decide +kernel, by decide +kernel, by decide +kernel⟩
set_option maxRecDepth 20000 in
theorem cl_RX10_102 : ab_CS RX10 102 mX10_in 3 := ⟨ab_in (i := 1030) rfl rfl, ab_in (i := 1031) rfl rfl, ab_in (i := 67) rfl rfl, ab_in (i := 1032) rfl rfl, by decide +kernel, by decide +kernel, by decide +kernel, by decide +kernel⟩
set_option maxRecDepth 20000 in
theorem cl_RX10_106 : ab_CS RX10 106 mX10_has 2 := ⟨ab_in (i := 1114) rfl rfl, ab_in (i := 1115) rfl rfl, ab_in (i := 67) rfl rfl, ab_in (i := 1116) rfl rfl, by decide +kernel, by decide +kernel, by decide +kernel, by decide +kernel⟩
set_option maxRecDepth 20000 in
theorem cl_RX10_120 : ab_CV RX10 120 10 mX10_here 0 := ⟨⟨_, _, rfl⟩, ab_in (i := 1039) rfl rfl, ab_in (i := 1041) rfl rfl, ab_in (i := 25) rfl rfl, ab_in (i := 67) rfl rfl, ab_in (i := 1042) rfl rfl, by decide +kernel, by decide +kernel, by decide +kernel, by decide +kernel⟩
set_option maxRecDepth 20000 in
theorem cl_RX10_128 : ab_CV RX10 128 10 mX10_fails 2 := ⟨⟨_, _, rfl⟩, ab_in (i := 1047) rfl rfl, ab_in (i := 1049) rfl rfl, ab_in (i := 27) rfl rfl, ab_in (i := 67) rfl rfl, ab_in (i := 1050) rfl rfl, by decide +kernel, by decide +kernel, by decide +kernel, by decide +kernel⟩
set_option maxRecDepth 20000 in
theorem cl_RX10_138 : ab_CV RX10 138 10 mX10_takeNumber 2 := ⟨⟨_, _, rfl⟩, ab_in (i := 1059) rfl rfl, ab_in (i := 1061) rfl rfl, ab_in (i := 30) rfl rfl, ab_in (i := 67) rfl rfl, ab_in (i := 1062) rfl rfl, by decide +kernel, by decide +kernel, by decide +kernel, by decide +kernel⟩
set_option maxRecDepth 20000 in
theorem cl_RX10_144 : ab_CV RX10 144 10 mX10_into 4 := ⟨⟨_, _, rfl⟩, ab_in (i := 1055) rfl rfl, ab_in (i := 1057) rfl rfl, ab_in (i := 29) rfl rfl, ab_in (i := 67) rfl rfl, ab_in (i := 1058) rfl rfl, by decide +kernel, by decide +kernel, by decide +kernel, by decide +kernel⟩
set_option maxRecDepth 20000 in
theorem cl_RX10_154 : ab_CV RX10 154 10 mX10_takeLimb 0 := ⟨⟨_, _, rfl⟩, ab_in (i := 1051) rfl rfl, ab_in (i := 1053) rfl rfl, ab_in (i := 28) rfl rfl, ab_in (i := 67) rfl rfl, ab_in (i := 1054) rfl rfl, by decide +kernel, by decide +kernel, by decide +kernel, by decide +kernel⟩
set_option maxRecDepth 20000 in
theorem cl_RX10_157 : ab_CV RX10 157 10 mX10_takeContract 0 := ⟨⟨_, _, rfl⟩, ab_in (i := 1065) rfl rfl, ab_in (i := 1067) rfl rfl, ab_in (i := 31) rfl rfl, ab_in (i := 67) rfl rfl, ab_in (i := 1068) rfl rfl, by decide +kernel, by decide +kernel, by decide +kernel, by decide +kernel⟩
set_option maxRecDepth 20000 in
theorem cl_RX10_160 : ab_CV RX10 160 10 mX10_takeRate 0 := ⟨⟨_, _, rfl⟩, ab_in (i := 1069) rfl rfl, ab_in (i := 1071) rfl rfl, ab_in (i := 32) rfl rfl, ab_in (i := 67) rfl rfl, ab_in (i := 1072) rfl rfl, by decide +kernel, by decide +kernel, by decide +kernel, by decide +kernel⟩
set_option maxRecDepth 20000 in
theorem cl_RX10_163 : ab_CV RX10 163 10 mX10_takeHeir 0 := ⟨⟨_, _, rfl⟩, ab_in (i := 1073) rfl rfl, ab_in (i := 1075) rfl rfl, ab_in (i := 33) rfl rfl, ab_in (i := 67) rfl rfl, ab_in (i := 1076) rfl rfl, by decide +kernel, by decide +kernel, by decide +kernel, by decide +kernel⟩
set_option maxRecDepth 20000 in
theorem cl_RX10_172 : ab_CV RX10 172 10 mX10_takeClause 0 := ⟨⟨_, _, rfl⟩, ab_in (i := 1043) rfl rfl, ab_in (i := 1045) rfl rfl, ab_in (i := 26) rfl rfl, ab_in (i := 67) rfl rfl, ab_in (i := 1046) rfl rfl, by decide +kernel, by decide +kernel, by decide +kernel, by decide +kernel⟩
set_option maxRecDepth 20000 in
theorem cl_RX10_175 : ab_CV RX10 175 10 mX10_takeRead 0 := ⟨⟨_, _, rfl⟩, ab_in (i := 1077) rfl rfl, ab_in (i := 1079) rfl rfl, ab_in (i := 34) rfl rfl, ab_in (i := 67) rfl rfl, ab_in (i := 1080) rfl rfl, by decide +kernel, by decide +kernel, by decide +kernel, by decide +kernel⟩
set_option maxRecDepth 20000 in
theorem cl_RX10_187 : ab_CV RX10 187 10 mX10_copied 0 := ⟨⟨_, _, rfl⟩, ab_in (i := 1089) rfl rfl, ab_in (i := 1091) rfl rfl, ab_in (i := 35) rfl rfl, ab_in (i := 67) rfl rfl, ab_in (i := 1092) rfl rfl, by decide +kernel, by decide +kernel, by decide +kernel, by decide +kernel⟩
set_option maxRecDepth 20000 in
theorem cl_RX10_190 : ab_CV RX10 190 10 mX10_lives 1 := ⟨⟨_, _, rfl⟩, ab_in (i := 1110) rfl rfl, ab_in (i := 1112) rfl rfl, ab_in (i := 39) rfl rfl, ab_in (i := 67) rfl rfl, ab_in (i := 1113) rfl rfl, by decide +kernel, by decide +kernel, by decide +kernel, by decide +kernel⟩
set_option maxRecDepth 20000 in
theorem cl_RX10_194 : ab_CV RX10 194 10 mX10_grown 2 := ⟨⟨_, _, rfl⟩, ab_in (i := 1117) rfl rfl, ab_in (i := 1119) rfl rfl, ab_in (i := 40) rfl rfl, ab_in (i := 67) rfl rfl, ab_in (i := 1120) rfl rfl, by decide +kernel, by decide +kernel, by decide +kernel, by decide +kernel⟩
set_option maxRecDepth 20000 in
theorem cl_RX10_197 : ab_CV RX10 197 10 mX10_measure 2 := ⟨⟨_, _, rfl⟩, ab_in (i := 1106) rfl rfl, ab_in (i := 1108) rfl rfl, ab_in (i := 38) rfl rfl, ab_in (i := 67) rfl rfl, ab_in (i := 1109) rfl rfl, by decide +kernel, by decide +kernel, by decide +kernel, by decide +kernel⟩
set_option maxRecDepth 20000 in
theorem cl_RX10_200 : ab_CV RX10 200 10 mX10_isLimb 1 := ⟨⟨_, _, rfl⟩, ab_in (i := 1097) rfl rfl, ab_in (i := 1099) rfl rfl, ab_in (i := 36) rfl rfl, ab_in (i := 67) rfl rfl, ab_in (i := 1100) rfl rfl, by decide +kernel, by decide +kernel, by decide +kernel, by decide +kernel⟩
set_option maxRecDepth 20000 in
theorem cl_RX10_204 : ab_CV RX10 204 10 mX10_measureNow 1 := ⟨⟨_, _, rfl⟩, ab_in (i := 1102) rfl rfl, ab_in (i := 1104) rfl rfl, ab_in (i := 37) rfl rfl, ab_in (i := 67) rfl rfl, ab_in (i := 1105) rfl rfl, by decide +kernel, by decide +kernel, by decide +kernel, by decide +kernel⟩
set_option maxRecDepth 20000 in
theorem cl_RX10_215 : ab_CV RX10 215 10 mX10_seasonsRefused 1 := ⟨⟨_, _, rfl⟩, ab_in (i := 1135) rfl rfl, ab_in (i := 1137) rfl rfl, ab_in (i := 41) rfl rfl, ab_in (i := 67) rfl rfl, ab_in (i := 1138) rfl rfl, by decide +kernel, by decide +kernel, by decide +kernel, by decide +kernel⟩
set_option maxRecDepth 20000 in
theorem cl_RX10_218 : ab_CV RX10 218 10 mX10_remember 0 := ⟨⟨_, _, rfl⟩, ab_in (i := 1141) rfl rfl, ab_in (i := 1143) rfl rfl, ab_in (i := 42) rfl rfl, ab_in (i := 67) rfl rfl, ab_in (i := 1144) rfl rfl, by decide +kernel, by decide +kernel, by decide +kernel, by decide +kernel⟩
set_option maxRecDepth 20000 in
theorem cl_RX10_221 : ab_CV RX10 221 10 mX10_pass 0 := ⟨⟨_, _, rfl⟩, ab_in (i := 1145) rfl rfl, ab_in (i := 1147) rfl rfl, ab_in (i := 43) rfl rfl, ab_in (i := 67) rfl rfl, ab_in (i := 1148) rfl rfl, by decide +kernel, by decide +kernel, by decide +kernel, by decide +kernel⟩
set_option maxRecDepth 20000 in
theorem cl_RX10_226 : ab_CV RX10 226 10 mX10_swell 2 := ⟨⟨_, _, rfl⟩, ab_in (i := 1154) rfl rfl, ab_in (i := 1156) rfl rfl, ab_in (i := 44) rfl rfl, ab_in (i := 67) rfl rfl, ab_in (i := 1157) rfl rfl, by decide +kernel, by decide +kernel, by decide +kernel, by decide +kernel⟩
set_option maxRecDepth 20000 in
theorem cl_RX10_230 : ab_CV RX10 230 10 mX10_shrink 1 := ⟨⟨_, _, rfl⟩, ab_in (i := 1162) rfl rfl, ab_in (i := 1164) rfl rfl, ab_in (i := 45) rfl rfl, ab_in (i := 67) rfl rfl, ab_in (i := 1165) rfl rfl, by decide +kernel, by decide +kernel, by decide +kernel, by decide +kernel⟩
set_option maxRecDepth 20000 in
theorem cl_RX10_244 : ab_CV RX10 244 10 mX10_draw 1 := ⟨⟨_, _, rfl⟩, ab_in (i := 1182) rfl rfl, ab_in (i := 1184) rfl rfl, ab_in (i := 47) rfl rfl, ab_in (i := 67) rfl rfl, ab_in (i := 1185) rfl rfl, by decide +kernel, by decide +kernel, by decide +kernel, by decide +kernel⟩
set_option maxRecDepth 20000 in
theorem cl_RX10_247 : ab_CV RX10 247 10 mX10_drawn 0 := ⟨⟨_, _, rfl⟩, ab_in (i := 1178) rfl rfl, ab_in (i := 1180) rfl rfl, ab_in (i := 46) rfl rfl, ab_in (i := 67) rfl rfl, ab_in (i := 1181) rfl rfl, by decide +kernel, by decide +kernel, by decide +kernel, by decide +kernel⟩
set_option maxRecDepth 20000 in
theorem cl_RX10_252 : ab_CS RX10 252 mX10_times 2 := ⟨ab_in (i := 1215) rfl rfl, ab_in (i := 1216) rfl rfl, ab_in (i := 67) rfl rfl, ab_in (i := 1217) rfl rfl, by decide +kernel, by decide +kernel, by decide +kernel, by decide +kernel⟩
set_option maxRecDepth 20000 in
theorem cl_RX10_255 : ab_CV RX10 255 10 mX10_isFree 1 := ⟨⟨_, _, rfl⟩, ab_in (i := 1218) rfl rfl, ab_in (i := 1220) rfl rfl, ab_in (i := 50) rfl rfl, ab_in (i := 67) rfl rfl, ab_in (i := 1221) rfl rfl, by decide +kernel, by decide +kernel, by decide +kernel, by decide +kernel⟩
set_option maxRecDepth 20000 in
theorem cl_RX10_258 : ab_CV RX10 258 10 mX10_basketAt 2 := ⟨⟨_, _, rfl⟩, ab_in (i := 1222) rfl rfl, ab_in (i := 1224) rfl rfl, ab_in (i := 51) rfl rfl, ab_in (i := 67) rfl rfl, ab_in (i := 1225) rfl rfl, by decide +kernel, by decide +kernel, by decide +kernel, by decide +kernel⟩
set_option maxRecDepth 20000 in
theorem cl_RX10_261 : ab_CS RX10 261 mX10_limbsOf 1 := ⟨ab_in (i := 1226) rfl rfl, ab_in (i := 1227) rfl rfl, ab_in (i := 67) rfl rfl, ab_in (i := 1228) rfl rfl, by decide +kernel, by decide +kernel, by decide +kernel, by decide +kernel⟩
set_option maxRecDepth 20000 in
theorem cl_RX10_269 : ab_CV RX10 269 10 mX10_isBasket 1 := ⟨⟨_, _, rfl⟩, ab_in (i := 1211) rfl rfl, ab_in (i := 1213) rfl rfl, ab_in (i := 49) rfl rfl, ab_in (i := 67) rfl rfl, ab_in (i := 1214) rfl rfl, by decide +kernel, by decide +kernel, by decide +kernel, by decide +kernel⟩
set_option maxRecDepth 20000 in
theorem cl_RX10_272 : ab_CS RX10 272 mX10_timesOf 1 := ⟨ab_in (i := 1230) rfl rfl, ab_in (i := 1231) rfl rfl, ab_in (i := 67) rfl rfl, ab_in (i := 1232) rfl rfl, by decide +kernel, by decide +kernel, by decide +kernel, by decide +kernel⟩
set_option maxRecDepth 20000 in
theorem cl_RX10_275 : ab_CS RX10 275 mX10_isAhead 2 := ⟨ab_in (i := 1233) rfl rfl, ab_in (i := 1234) rfl rfl, ab_in (i := 67) rfl rfl, ab_in (i := 1235) rfl rfl, by decide +kernel, by decide +kernel, by decide +kernel, by decide +kernel⟩
set_option maxRecDepth 20000 in
theorem cl_RX10_278 : ab_CV RX10 278 10 mX10_findBasket 0 := ⟨⟨_, _, rfl⟩, ab_in (i := 1207) rfl rfl, ab_in (i := 1209) rfl rfl, ab_in (i := 48) rfl rfl, ab_in (i := 67) rfl rfl, ab_in (i := 1210) rfl rfl, by decide +kernel, by decide +kernel, by decide +kernel, by decide +kernel⟩
set_option maxRecDepth 20000 in
theorem cl_RX10_281 : ab_CS RX10 281 mX10_figure 3 := ⟨ab_in (i := 1248) rfl rfl, ab_in (i := 1249) rfl rfl, ab_in (i := 67) rfl rfl, ab_in (i := 1250) rfl rfl, by decide +kernel, by decide +kernel, by decide +kernel, by decide +kernel⟩
set_option maxRecDepth 20000 in
theorem cl_RX10_288 : ab_CV RX10 288 10 mX10_isRow 2 := ⟨⟨_, _, rfl⟩, ab_in (i := 1244) rfl rfl, ab_in (i := 1246) rfl rfl, ab_in (i := 53) rfl rfl, ab_in (i := 67) rfl rfl, ab_in (i := 1247) rfl rfl, by decide +kernel, by decide +kernel, by decide +kernel, by decide +kernel⟩
set_option maxRecDepth 20000 in
theorem cl_RX10_291 : ab_CV RX10 291 10 mX10_gains 3 := ⟨⟨_, _, rfl⟩, ab_in (i := 1251) rfl rfl, ab_in (i := 1253) rfl rfl, ab_in (i := 54) rfl rfl, ab_in (i := 67) rfl rfl, ab_in (i := 1254) rfl rfl, by decide +kernel, by decide +kernel, by decide +kernel, by decide +kernel⟩
set_option maxRecDepth 20000 in
theorem cl_RX10_295 : ab_CV RX10 295 10 mX10_findRing 0 := ⟨⟨_, _, rfl⟩, ab_in (i := 1240) rfl rfl, ab_in (i := 1242) rfl rfl, ab_in (i := 52) rfl rfl, ab_in (i := 67) rfl rfl, ab_in (i := 1243) rfl rfl, by decide +kernel, by decide +kernel, by decide +kernel, by decide +kernel⟩
set_option maxRecDepth 20000 in
theorem cl_RX10_298 : ab_CS RX10 298 mX10_heirOf 2 := ⟨ab_in (i := 1272) rfl rfl, ab_in (i := 1273) rfl rfl, ab_in (i := 67) rfl rfl, ab_in (i := 1274) rfl rfl, by decide +kernel, by decide +kernel, by decide +kernel, by decide +kernel⟩
set_option maxRecDepth 20000 in
theorem cl_RX10_301 : ab_CS RX10 301 mX10_apart 2 := ⟨ab_in (i := 1275) rfl rfl, ab_in (i := 1276) rfl rfl, ab_in (i := 67) rfl rfl, ab_in (i := 1277) rfl rfl, by decide +kernel, by decide +kernel, by decide +kernel, by decide +kernel⟩
set_option maxRecDepth 20000 in
theorem cl_RX10_304 : ab_CS RX10 304 mX10_bits 1 := ⟨ab_in (i := 1263) rfl rfl, ab_in (i := 1264) rfl rfl, ab_in (i := 67) rfl rfl, ab_in (i := 1265) rfl rfl, by decide +kernel, by decide +kernel, by decide +kernel, by decide +kernel⟩
set_option maxRecDepth 20000 in
theorem cl_RX10_309 : ab_CV RX10 309 10 mX10_apartBy 1 := ⟨⟨_, _, rfl⟩, ab_in (i := 1268) rfl rfl, ab_in (i := 1270) rfl rfl, ab_in (i := 55) rfl rfl, ab_in (i := 67) rfl rfl, ab_in (i := 1271) rfl rfl, by decide +kernel, by decide +kernel, by decide +kernel, by decide +kernel⟩
set_option maxRecDepth 20000 in
theorem cl_RX10_324 : ab_CV RX10 324 10 mX10_used 0 := ⟨⟨_, _, rfl⟩, ab_in (i := 1312) rfl rfl, ab_in (i := 1305) rfl rfl, ab_in (i := 1306) rfl rfl, ab_in (i := 67) rfl rfl, ab_in (i := 1307) rfl rfl, by decide +kernel, by decide +kernel, by decide +kernel, by decide +kernel⟩
set_option maxRecDepth 20000 in
theorem cl_RL_9 : ab_CI RL 9 mX9_init 0 := ⟨Or.inl (ab_in (i := 73) rfl rfl), ab_in (i := 74) rfl rfl, rfl, rfl, ab_in (i := 57) rfl rfl, ab_in (i := 75) rfl rfl, by decide +kernel, by decide +kernel, by decide +kernel, by decide +kernel⟩
set_option maxRecDepth 20000 in
theorem cl_RL_12 : ab_CI RL 12 mX10_init 0 := ⟨Or.inl (ab_in (i := 884) rfl rfl), ab_in (i := 885) rfl rfl, rfl, rfl, ab_in (i := 67) rfl rfl, ab_in (i := 886) rfl rfl, by decide +kernel, by decide +kernel, by decide +kernel, by decide +kernel⟩
set_option maxRecDepth 20000 in
theorem cl_RL_13 : ab_CV RL 13 9 mX9_feed 1 := ⟨⟨_, _, rfl⟩, ab_in (i := 360) rfl rfl, ab_in (i := 361) rfl rfl, ab_in (i := 362) rfl rfl, ab_in (i := 57) rfl rfl, ab_in (i := 363) rfl rfl, by decide +kernel, by decide +kernel, by decide +kernel, by decide +kernel⟩
set_option maxRecDepth 20000 in
theorem cl_RL_17 : ab_CV RL 17 10 mX10_feed 1 := ⟨⟨_, _, rfl⟩, ab_in (i := 1025) rfl rfl, ab_in (i := 1026) rfl rfl, ab_in (i := 1027) rfl rfl, ab_in (i := 67) rfl rfl, ab_in (i := 1028) rfl rfl, by decide +kernel, by decide +kernel, by decide +kernel, by decide +kernel⟩
set_option maxRecDepth 20000 in
theorem cl_RL_18 : ab_CV RL 18 9 mX9_port 0 := ⟨⟨_, _, rfl⟩, ab_in (i := 374) rfl rfl, ab_in (i := 375) rfl rfl, ab_in (i := 376) rfl rfl, ab_in (i := 57) rfl rfl, ab_in (i := 377) rfl rfl, by decide +kernel, by decide +kernel, by decide +kernel, by decide +kernel⟩
set_option maxRecDepth 20000 in
theorem cl_RL_22 : ab_CV RL 22 10 mX10_port 0 := ⟨⟨_, _, rfl⟩, ab_in (i := 1035) rfl rfl, ab_in (i := 1036) rfl rfl, ab_in (i := 1037) rfl rfl, ab_in (i := 67) rfl rfl, ab_in (i := 1038) rfl rfl, by decide +kernel, by decide +kernel, by decide +kernel, by decide +kernel⟩
set_option maxRecDepth 20000 in
theorem cl_RL_23 : ab_CV RL 23 9 mX9_fault 0 := ⟨⟨_, _, rfl⟩, ab_in (i := 492) rfl rfl, ab_in (i := 493) rfl rfl, ab_in (i := 494) rfl rfl, ab_in (i := 57) rfl rfl, ab_in (i := 495) rfl rfl, by decide +kernel, by decide +kernel, by decide +kernel, by decide +kernel⟩
set_option maxRecDepth 20000 in
theorem cl_RL_26 : ab_CV RL 26 10 mX10_fault 0 := ⟨⟨_, _, rfl⟩, ab_in (i := 1081) rfl rfl, ab_in (i := 1082) rfl rfl, ab_in (i := 1083) rfl rfl, ab_in (i := 67) rfl rfl, ab_in (i := 1084) rfl rfl, by decide +kernel, by decide +kernel, by decide +kernel, by decide +kernel⟩
set_option maxRecDepth 20000 in
theorem cl_RL_27 : ab_CV RL 27 9 mX9_told 1 := ⟨⟨_, _, rfl⟩, ab_in (i := 496) rfl rfl, ab_in (i := 497) rfl rfl, ab_in (i := 498) rfl rfl, ab_in (i := 57) rfl rfl, ab_in (i := 499) rfl rfl, by decide +kernel, by decide +kernel, by decide +kernel, by decide +kernel⟩
set_option maxRecDepth 20000 in
theorem cl_RL_30 : ab_CV RL 30 10 mX10_told 1 := ⟨⟨_, _, rfl⟩, ab_in (i := 1085) rfl rfl, ab_in (i := 1086) rfl rfl, ab_in (i := 1087) rfl rfl, ab_in (i := 67) rfl rfl, ab_in (i := 1088) rfl rfl, by decide +kernel, by decide +kernel, by decide +kernel, by decide +kernel⟩
set_option maxRecDepth 20000 in
theorem cl_RL_31 : ab_CV RL 31 9 mX9_limb 2 := ⟨⟨_, _, rfl⟩, ab_in (i := 523) rfl rfl, ab_in (i := 524) rfl rfl, ab_in (i := 525) rfl rfl, ab_in (i := 57) rfl rfl, ab_in (i := 526) rfl rfl, by decide +kernel, by decide +kernel, by decide +kernel, by decide +kernel⟩
set_option maxRecDepth 20000 in
theorem cl_RL_35 : ab_CV RL 35 10 mX10_limb 2 := ⟨⟨_, _, rfl⟩, ab_in (i := 1093) rfl rfl, ab_in (i := 1094) rfl rfl, ab_in (i := 1095) rfl rfl, ab_in (i := 67) rfl rfl, ab_in (i := 1096) rfl rfl, by decide +kernel, by decide +kernel, by decide +kernel, by decide +kernel⟩
set_option maxRecDepth 20000 in
theorem cl_RL_36 : ab_CV RL 36 9 mX9_contract 2 := ⟨⟨_, _, rfl⟩, ab_in (i := 565) rfl rfl, ab_in (i := 566) rfl rfl, ab_in (i := 567) rfl rfl, ab_in (i := 57) rfl rfl, ab_in (i := 568) rfl rfl, by decide +kernel, by decide +kernel, by decide +kernel, by decide +kernel⟩
set_option maxRecDepth 20000 in
theorem cl_RL_39 : ab_CV RL 39 10 mX10_contract 2 := ⟨⟨_, _, rfl⟩, ab_in (i := 1123) rfl rfl, ab_in (i := 1124) rfl rfl, ab_in (i := 1125) rfl rfl, ab_in (i := 67) rfl rfl, ab_in (i := 1126) rfl rfl, by decide +kernel, by decide +kernel, by decide +kernel, by decide +kernel⟩
set_option maxRecDepth 20000 in
theorem cl_RL_40 : ab_CV RL 40 9 mX9_rate 2 := ⟨⟨_, _, rfl⟩, ab_in (i := 577) rfl rfl, ab_in (i := 578) rfl rfl, ab_in (i := 579) rfl rfl, ab_in (i := 57) rfl rfl, ab_in (i := 580) rfl rfl, by decide +kernel, by decide +kernel, by decide +kernel, by decide +kernel⟩
set_option maxRecDepth 20000 in
theorem cl_RL_43 : ab_CV RL 43 10 mX10_rate 2 := ⟨⟨_, _, rfl⟩, ab_in (i := 1127) rfl rfl, ab_in (i := 1128) rfl rfl, ab_in (i := 1129) rfl rfl, ab_in (i := 67) rfl rfl, ab_in (i := 1130) rfl rfl, by decide +kernel, by decide +kernel, by decide +kernel, by decide +kernel⟩
set_option maxRecDepth 20000 in
theorem cl_RL_44 : ab_CV RL 44 9 mX9_season 1 := ⟨⟨_, _, rfl⟩, ab_in (i := 585) rfl rfl, ab_in (i := 586) rfl rfl, ab_in (i := 587) rfl rfl, ab_in (i := 57) rfl rfl, ab_in (i := 588) rfl rfl, by decide +kernel, by decide +kernel, by decide +kernel, by decide +kernel⟩
set_option maxRecDepth 20000 in
theorem cl_RL_47 : ab_CV RL 47 10 mX10_season 1 := ⟨⟨_, _, rfl⟩, ab_in (i := 1131) rfl rfl, ab_in (i := 1132) rfl rfl, ab_in (i := 1133) rfl rfl, ab_in (i := 67) rfl rfl, ab_in (i := 1134) rfl rfl, by decide +kernel, by decide +kernel, by decide +kernel, by decide +kernel⟩
set_option maxRecDepth 20000 in
theorem cl_RL_48 : ab_CV RL 48 9 mX9_gout 2 := ⟨⟨_, _, rfl⟩, ab_in (i := 611) rfl rfl, ab_in (i := 612) rfl rfl, ab_in (i := 613) rfl rfl, ab_in (i := 57) rfl rfl, ab_in (i := 614) rfl rfl, by decide +kernel, by decide +kernel, by decide +kernel, by decide +kernel⟩
set_option maxRecDepth 20000 in
theorem cl_RL_51 : ab_CV RL 51 10 mX10_gout 2 := ⟨⟨_, _, rfl⟩, ab_in (i := 1149) rfl rfl, ab_in (i := 1150) rfl rfl, ab_in (i := 1151) rfl rfl, ab_in (i := 67) rfl rfl, ab_in (i := 1152) rfl rfl, by decide +kernel, by decide +kernel, by decide +kernel, by decide +kernel⟩
set_option maxRecDepth 20000 in
theorem cl_RL_52 : ab_CV RL 52 9 mX9_stub 1 := ⟨⟨_, _, rfl⟩, ab_in (i := 620) rfl rfl, ab_in (i := 621) rfl rfl, ab_in (i := 622) rfl rfl, ab_in (i := 57) rfl rfl, ab_in (i := 623) rfl rfl, by decide +kernel, by decide +kernel, by decide +kernel, by decide +kernel⟩
set_option maxRecDepth 20000 in
theorem cl_RL_55 : ab_CV RL 55 10 mX10_stub 1 := ⟨⟨_, _, rfl⟩, ab_in (i := 1158) rfl rfl, ab_in (i := 1159) rfl rfl, ab_in (i := 1160) rfl rfl, ab_in (i := 67) rfl rfl, ab_in (i := 1161) rfl rfl, by decide +kernel, by decide +kernel, by decide +kernel, by decide +kernel⟩
set_option maxRecDepth 20000 in
theorem cl_RL_56 : ab_CV RL 56 9 mX9_dies 1 := ⟨⟨_, _, rfl⟩, ab_in (i := 632) rfl rfl, ab_in (i := 633) rfl rfl, ab_in (i := 634) rfl rfl, ab_in (i := 57) rfl rfl, ab_in (i := 635) rfl rfl, by decide +kernel, by decide +kernel, by decide +kernel, by decide +kernel⟩
set_option maxRecDepth 20000 in
theorem cl_RL_59 : ab_CV RL 59 10 mX10_dies 1 := ⟨⟨_, _, rfl⟩, ab_in (i := 1166) rfl rfl, ab_in (i := 1167) rfl rfl, ab_in (i := 1168) rfl rfl, ab_in (i := 67) rfl rfl, ab_in (i := 1169) rfl rfl, by decide +kernel, by decide +kernel, by decide +kernel, by decide +kernel⟩
set_option maxRecDepth 20000 in
theorem cl_RL_60 : ab_CV RL 60 9 mX9_copy 1 := ⟨⟨_, _, rfl⟩, ab_in (i := 640) rfl rfl, ab_in (i := 641) rfl rfl, ab_in (i := 642) rfl rfl, ab_in (i := 57) rfl rfl, ab_in (i := 643) rfl rfl, by decide +kernel, by decide +kernel, by decide +kernel, by decide +kernel⟩
set_option maxRecDepth 20000 in
theorem cl_RL_63 : ab_CV RL 63 10 mX10_copy 1 := ⟨⟨_, _, rfl⟩, ab_in (i := 1170) rfl rfl, ab_in (i := 1171) rfl rfl, ab_in (i := 1172) rfl rfl, ab_in (i := 67) rfl rfl, ab_in (i := 1173) rfl rfl, by decide +kernel, by decide +kernel, by decide +kernel, by decide +kernel⟩
set_option maxRecDepth 20000 in
theorem cl_RL_64 : ab_CV RL 64 9 mX9_drift 1 := ⟨⟨_, _, rfl⟩, ab_in (i := 648) rfl rfl, ab_in (i := 649) rfl rfl, ab_in (i := 650) rfl rfl, ab_in (i := 57) rfl rfl, ab_in (i := 651) rfl rfl, by decide +kernel, by decide +kernel, by decide +kernel, by decide +kernel⟩
set_option maxRecDepth 20000 in
theorem cl_RL_67 : ab_CV RL 67 10 mX10_drift 1 := ⟨⟨_, _, rfl⟩, ab_in (i := 1174) rfl rfl, ab_in (i := 1175) rfl rfl, ab_in (i := 1176) rfl rfl, ab_in (i := 67) rfl rfl, ab_in (i := 1177) rfl rfl, by decide +kernel, by decide +kernel, by decide +kernel, by decide +kernel⟩
set_option maxRecDepth 20000 in
theorem cl_RL_68 : ab_CV RL 68 9 mX9_undo 0 := ⟨⟨_, _, rfl⟩, ab_in (i := 666) rfl rfl, ab_in (i := 667) rfl rfl, ab_in (i := 668) rfl rfl, ab_in (i := 57) rfl rfl, ab_in (i := 669) rfl rfl, by decide +kernel, by decide +kernel, by decide +kernel, by decide +kernel⟩
set_option maxRecDepth 20000 in
theorem cl_RL_71 : ab_CV RL 71 10 mX10_undo 0 := ⟨⟨_, _, rfl⟩, ab_in (i := 1190) rfl rfl, ab_in (i := 1191) rfl rfl, ab_in (i := 1192) rfl rfl, ab_in (i := 67) rfl rfl, ab_in (i := 1193) rfl rfl, by decide +kernel, by decide +kernel, by decide +kernel, by decide +kernel⟩
set_option maxRecDepth 20000 in
theorem cl_RL_72 : ab_CV RL 72 9 mX9_firstNought 0 := ⟨⟨_, _, rfl⟩, ab_in (i := 674) rfl rfl, ab_in (i := 675) rfl rfl, ab_in (i := 676) rfl rfl, ab_in (i := 57) rfl rfl, ab_in (i := 677) rfl rfl, by decide +kernel, by decide +kernel, by decide +kernel, by decide +kernel⟩
set_option maxRecDepth 20000 in
theorem cl_RL_75 : ab_CV RL 75 10 mX10_firstNought 0 := ⟨⟨_, _, rfl⟩, ab_in (i := 1194) rfl rfl, ab_in (i := 1195) rfl rfl, ab_in (i := 1196) rfl rfl, ab_in (i := 67) rfl rfl, ab_in (i := 1197) rfl rfl, by decide +kernel, by decide +kernel, by decide +kernel, by decide +kernel⟩
set_option maxRecDepth 20000 in
theorem cl_RL_76 : ab_CV RL 76 9 mX9_means 2 := ⟨⟨_, _, rfl⟩, ab_in (i := 679) rfl rfl, ab_in (i := 680) rfl rfl, ab_in (i := 681) rfl rfl, ab_in (i := 57) rfl rfl, ab_in (i := 682) rfl rfl, by decide +kernel, by decide +kernel, by decide +kernel, by decide +kernel⟩
set_option maxRecDepth 20000 in
theorem cl_RL_79 : ab_CV RL 79 10 mX10_means 2 := ⟨⟨_, _, rfl⟩, ab_in (i := 1198) rfl rfl, ab_in (i := 1199) rfl rfl, ab_in (i := 1200) rfl rfl, ab_in (i := 67) rfl rfl, ab_in (i := 1201) rfl rfl, by decide +kernel, by decide +kernel, by decide +kernel, by decide +kernel⟩
set_option maxRecDepth 20000 in
theorem cl_RL_80 : ab_CV RL 80 9 mX9_basket 1 := ⟨⟨_, _, rfl⟩, ab_in (i := 683) rfl rfl, ab_in (i := 684) rfl rfl, ab_in (i := 685) rfl rfl, ab_in (i := 57) rfl rfl, ab_in (i := 686) rfl rfl, by decide +kernel, by decide +kernel, by decide +kernel, by decide +kernel⟩
set_option maxRecDepth 20000 in
theorem cl_RL_83 : ab_CV RL 83 10 mX10_basket 1 := ⟨⟨_, _, rfl⟩, ab_in (i := 1203) rfl rfl, ab_in (i := 1204) rfl rfl, ab_in (i := 1205) rfl rfl, ab_in (i := 67) rfl rfl, ab_in (i := 1206) rfl rfl, by decide +kernel, by decide +kernel, by decide +kernel, by decide +kernel⟩
set_option maxRecDepth 20000 in
theorem cl_RL_84 : ab_CV RL 84 9 mX9_ring 1 := ⟨⟨_, _, rfl⟩, ab_in (i := 703) rfl rfl, ab_in (i := 704) rfl rfl, ab_in (i := 705) rfl rfl, ab_in (i := 57) rfl rfl, ab_in (i := 706) rfl rfl, by decide +kernel, by decide +kernel, by decide +kernel, by decide +kernel⟩
set_option maxRecDepth 20000 in
theorem cl_RL_87 : ab_CV RL 87 10 mX10_ring 1 := ⟨⟨_, _, rfl⟩, ab_in (i := 1236) rfl rfl, ab_in (i := 1237) rfl rfl, ab_in (i := 1238) rfl rfl, ab_in (i := 67) rfl rfl, ab_in (i := 1239) rfl rfl, by decide +kernel, by decide +kernel, by decide +kernel, by decide +kernel⟩
set_option maxRecDepth 20000 in
theorem cl_RL_88 : ab_CV RL 88 9 mX9_mended 0 := ⟨⟨_, _, rfl⟩, ab_in (i := 715) rfl rfl, ab_in (i := 716) rfl rfl, ab_in (i := 717) rfl rfl, ab_in (i := 57) rfl rfl, ab_in (i := 718) rfl rfl, by decide +kernel, by decide +kernel, by decide +kernel, by decide +kernel⟩
set_option maxRecDepth 20000 in
theorem cl_RL_91 : ab_CV RL 91 10 mX10_mended 0 := ⟨⟨_, _, rfl⟩, ab_in (i := 1255) rfl rfl, ab_in (i := 1256) rfl rfl, ab_in (i := 1257) rfl rfl, ab_in (i := 67) rfl rfl, ab_in (i := 1258) rfl rfl, by decide +kernel, by decide +kernel, by decide +kernel, by decide +kernel⟩
set_option maxRecDepth 20000 in
theorem cl_RL_92 : ab_CV RL 92 9 mX9_heirs 1 := ⟨⟨_, _, rfl⟩, ab_in (i := 728) rfl rfl, ab_in (i := 729) rfl rfl, ab_in (i := 730) rfl rfl, ab_in (i := 57) rfl rfl, ab_in (i := 731) rfl rfl, by decide +kernel, by decide +kernel, by decide +kernel, by decide +kernel⟩
set_option maxRecDepth 20000 in
theorem cl_RL_95 : ab_CV RL 95 10 mX10_heirs 1 := ⟨⟨_, _, rfl⟩, ab_in (i := 1259) rfl rfl, ab_in (i := 1260) rfl rfl, ab_in (i := 1261) rfl rfl, ab_in (i := 67) rfl rfl, ab_in (i := 1262) rfl rfl, by decide +kernel, by decide +kernel, by decide +kernel, by decide +kernel⟩
set_option maxRecDepth 20000 in
theorem cl_RL_96 : ab_CV RL 96 9 mX9_reach 2 := ⟨⟨_, _, rfl⟩, ab_in (i := 771) rfl rfl, ab_in (i := 772) rfl rfl, ab_in (i := 773) rfl rfl, ab_in (i := 57) rfl rfl, ab_in (i := 774) rfl rfl, by decide +kernel, by decide +kernel, by decide +kernel, by decide +kernel⟩
set_option maxRecDepth 20000 in
theorem cl_RL_99 : ab_CV RL 99 10 mX10_reach 2 := ⟨⟨_, _, rfl⟩, ab_in (i := 1278) rfl rfl, ab_in (i := 1279) rfl rfl, ab_in (i := 1280) rfl rfl, ab_in (i := 67) rfl rfl, ab_in (i := 1281) rfl rfl, by decide +kernel, by decide +kernel, by decide +kernel, by decide +kernel⟩
set_option maxRecDepth 20000 in
theorem cl_RL_100 : ab_CV RL 100 9 mX9_bestCopy 2 := ⟨⟨_, _, rfl⟩, ab_in (i := 778) rfl rfl, ab_in (i := 779) rfl rfl, ab_in (i := 780) rfl rfl, ab_in (i := 57) rfl rfl, ab_in (i := 781) rfl rfl, by decide +kernel, by decide +kernel, by decide +kernel, by decide +kernel⟩
set_option maxRecDepth 20000 in
theorem cl_RL_103 : ab_CV RL 103 10 mX10_bestCopy 2 := ⟨⟨_, _, rfl⟩, ab_in (i := 1282) rfl rfl, ab_in (i := 1283) rfl rfl, ab_in (i := 1284) rfl rfl, ab_in (i := 67) rfl rfl, ab_in (i := 1285) rfl rfl, by decide +kernel, by decide +kernel, by decide +kernel, by decide +kernel⟩
set_option maxRecDepth 20000 in
theorem cl_RL_104 : ab_CV RL 104 9 mX9_nearest 1 := ⟨⟨_, _, rfl⟩, ab_in (i := 787) rfl rfl, ab_in (i := 788) rfl rfl, ab_in (i := 789) rfl rfl, ab_in (i := 57) rfl rfl, ab_in (i := 790) rfl rfl, by decide +kernel, by decide +kernel, by decide +kernel, by decide +kernel⟩
set_option maxRecDepth 20000 in
theorem cl_RL_107 : ab_CV RL 107 10 mX10_nearest 1 := ⟨⟨_, _, rfl⟩, ab_in (i := 1286) rfl rfl, ab_in (i := 1287) rfl rfl, ab_in (i := 1288) rfl rfl, ab_in (i := 67) rfl rfl, ab_in (i := 1289) rfl rfl, by decide +kernel, by decide +kernel, by decide +kernel, by decide +kernel⟩
set_option maxRecDepth 20000 in
theorem cl_RL_108 : ab_CV RL 108 9 mX9_odds 3 := ⟨⟨_, _, rfl⟩, ab_in (i := 792) rfl rfl, ab_in (i := 793) rfl rfl, ab_in (i := 794) rfl rfl, ab_in (i := 57) rfl rfl, ab_in (i := 795) rfl rfl, by decide +kernel, by decide +kernel, by decide +kernel, by decide +kernel⟩
set_option maxRecDepth 20000 in
theorem cl_RL_112 : ab_CV RL 112 10 mX10_odds 3 := ⟨⟨_, _, rfl⟩, ab_in (i := 1291) rfl rfl, ab_in (i := 1292) rfl rfl, ab_in (i := 1293) rfl rfl, ab_in (i := 67) rfl rfl, ab_in (i := 1294) rfl rfl, by decide +kernel, by decide +kernel, by decide +kernel, by decide +kernel⟩
set_option maxRecDepth 20000 in
theorem cl_RL_113 : ab_CV RL 113 9 mX9_got 2 := ⟨⟨_, _, rfl⟩, ab_in (i := 798) rfl rfl, ab_in (i := 799) rfl rfl, ab_in (i := 800) rfl rfl, ab_in (i := 57) rfl rfl, ab_in (i := 801) rfl rfl, by decide +kernel, by decide +kernel, by decide +kernel, by decide +kernel⟩
set_option maxRecDepth 20000 in
theorem cl_RL_116 : ab_CV RL 116 10 mX10_got 2 := ⟨⟨_, _, rfl⟩, ab_in (i := 1298) rfl rfl, ab_in (i := 1299) rfl rfl, ab_in (i := 1300) rfl rfl, ab_in (i := 67) rfl rfl, ab_in (i := 1301) rfl rfl, by decide +kernel, by decide +kernel, by decide +kernel, by decide +kernel⟩
set_option maxRecDepth 20000 in
theorem cl_RL_117 : ab_CV RL 117 9 mX9_used 0 := ⟨⟨_, _, rfl⟩, ab_in (i := 806) rfl rfl, ab_in (i := 807) rfl rfl, ab_in (i := 808) rfl rfl, ab_in (i := 57) rfl rfl, ab_in (i := 809) rfl rfl, by decide +kernel, by decide +kernel, by decide +kernel, by decide +kernel⟩
set_option maxRecDepth 20000 in
theorem cl_RL_120 : ab_CV RL 120 10 mX10_used 0 := ⟨⟨_, _, rfl⟩, ab_in (i := 1304) rfl rfl, ab_in (i := 1305) rfl rfl, ab_in (i := 1306) rfl rfl, ab_in (i := 67) rfl rfl, ab_in (i := 1307) rfl rfl, by decide +kernel, by decide +kernel, by decide +kernel, by decide +kernel⟩
set_option maxRecDepth 20000 in
theorem cl_RL_121 : ab_CV RL 121 9 mX9_bale 0 := ⟨⟨_, _, rfl⟩, ab_in (i := 819) rfl rfl, ab_in (i := 820) rfl rfl, ab_in (i := 821) rfl rfl, ab_in (i := 57) rfl rfl, ab_in (i := 822) rfl rfl, by decide +kernel, by decide +kernel, by decide +kernel, by decide +kernel⟩
set_option maxRecDepth 20000 in
theorem cl_RL_124 : ab_CV RL 124 10 mX10_bale 0 := ⟨⟨_, _, rfl⟩, ab_in (i := 1308) rfl rfl, ab_in (i := 1309) rfl rfl, ab_in (i := 1310) rfl rfl, ab_in (i := 67) rfl rfl, ab_in (i := 1311) rfl rfl, by decide +kernel, by decide +kernel, by decide +kernel, by decide +kernel⟩
set_option maxRecDepth 20000 in
theorem cl_RL_125 : ab_CV RL 125 9 mX9_write 2 := ⟨⟨_, _, rfl⟩, ab_in (i := 827) rfl rfl, ab_in (i := 828) rfl rfl, ab_in (i := 829) rfl rfl, ab_in (i := 57) rfl rfl, ab_in (i := 830) rfl rfl, by decide +kernel, by decide +kernel, by decide +kernel, by decide +kernel⟩
set_option maxRecDepth 20000 in
theorem cl_RL_128 : ab_CV RL 128 10 mX10_write 2 := ⟨⟨_, _, rfl⟩, ab_in (i := 1313) rfl rfl, ab_in (i := 1314) rfl rfl, ab_in (i := 1315) rfl rfl, ab_in (i := 67) rfl rfl, ab_in (i := 1316) rfl rfl, by decide +kernel, by decide +kernel, by decide +kernel, by decide +kernel⟩
set_option maxRecDepth 20000 in
theorem cl_RL_129 : ab_CV RL 129 9 mX9_tear 0 := ⟨⟨_, _, rfl⟩, ab_in (i := 835) rfl rfl, ab_in (i := 836) rfl rfl, ab_in (i := 837) rfl rfl, ab_in (i := 57) rfl rfl, ab_in (i := 838) rfl rfl, by decide +kernel, by decide +kernel, by decide +kernel, by decide +kernel⟩
set_option maxRecDepth 20000 in
theorem cl_RL_132 : ab_CV RL 132 10 mX10_tear 0 := ⟨⟨_, _, rfl⟩, ab_in (i := 1317) rfl rfl, ab_in (i := 1318) rfl rfl, ab_in (i := 1319) rfl rfl, ab_in (i := 67) rfl rfl, ab_in (i := 1320) rfl rfl, by decide +kernel, by decide +kernel, by decide +kernel, by decide +kernel⟩
set_option maxRecDepth 20000 in
theorem cl_RL_133 : ab_CV RL 133 9 mX9_judge 0 := ⟨⟨_, _, rfl⟩, ab_in (i := 839) rfl rfl, ab_in (i := 840) rfl rfl, ab_in (i := 841) rfl rfl, ab_in (i := 57) rfl rfl, ab_in (i := 842) rfl rfl, by decide +kernel, by decide +kernel, by decide +kernel, by decide +kernel⟩
set_option maxRecDepth 20000 in
theorem cl_RL_136 : ab_CV RL 136 10 mX10_judge 0 := ⟨⟨_, _, rfl⟩, ab_in (i := 1321) rfl rfl, ab_in (i := 1322) rfl rfl, ab_in (i := 1323) rfl rfl, ab_in (i := 67) rfl rfl, ab_in (i := 1324) rfl rfl, by decide +kernel, by decide +kernel, by decide +kernel, by decide +kernel⟩
set_option maxRecDepth 20000 in
theorem cl_RL_137 : ab_CV RL 137 9 mX9_seed 1 := ⟨⟨_, _, rfl⟩, ab_in (i := 847) rfl rfl, ab_in (i := 848) rfl rfl, ab_in (i := 849) rfl rfl, ab_in (i := 57) rfl rfl, ab_in (i := 850) rfl rfl, by decide +kernel, by decide +kernel, by decide +kernel, by decide +kernel⟩
set_option maxRecDepth 20000 in
theorem cl_RL_140 : ab_CV RL 140 10 mX10_seed 1 := ⟨⟨_, _, rfl⟩, ab_in (i := 1325) rfl rfl, ab_in (i := 1326) rfl rfl, ab_in (i := 1327) rfl rfl, ab_in (i := 67) rfl rfl, ab_in (i := 1328) rfl rfl, by decide +kernel, by decide +kernel, by decide +kernel, by decide +kernel⟩
set_option maxRecDepth 20000 in
theorem cl_RL_141 : ab_CV RL 141 9 mX9_keep 1 := ⟨⟨_, _, rfl⟩, ab_in (i := 859) rfl rfl, ab_in (i := 860) rfl rfl, ab_in (i := 861) rfl rfl, ab_in (i := 57) rfl rfl, ab_in (i := 862) rfl rfl, by decide +kernel, by decide +kernel, by decide +kernel, by decide +kernel⟩
set_option maxRecDepth 20000 in
theorem cl_RL_144 : ab_CV RL 144 10 mX10_keep 1 := ⟨⟨_, _, rfl⟩, ab_in (i := 1329) rfl rfl, ab_in (i := 1330) rfl rfl, ab_in (i := 1331) rfl rfl, ab_in (i := 67) rfl rfl, ab_in (i := 1332) rfl rfl, by decide +kernel, by decide +kernel, by decide +kernel, by decide +kernel⟩
set_option maxRecDepth 20000 in
theorem cl_RL_145 : ab_CV RL 145 9 mX9_goBack 1 := ⟨⟨_, _, rfl⟩, ab_in (i := 870) rfl rfl, ab_in (i := 871) rfl rfl, ab_in (i := 872) rfl rfl, ab_in (i := 57) rfl rfl, ab_in (i := 873) rfl rfl, by decide +kernel, by decide +kernel, by decide +kernel, by decide +kernel⟩
set_option maxRecDepth 20000 in
theorem cl_RL_148 : ab_CV RL 148 10 mX10_goBack 1 := ⟨⟨_, _, rfl⟩, ab_in (i := 1333) rfl rfl, ab_in (i := 1334) rfl rfl, ab_in (i := 1335) rfl rfl, ab_in (i := 67) rfl rfl, ab_in (i := 1336) rfl rfl, by decide +kernel, by decide +kernel, by decide +kernel, by decide +kernel⟩
set_option maxRecDepth 20000 in
theorem nl_RX6_9 : ab_N RX6 9 2 2 [.null, .int 0] := ⟨RX2, TX2, tyX2, rfl, uw_2, tyX2_ok, ab_in (i := 85) rfl rfl, ab_in (i := 86) rfl rfl, ab_in (i := 59) rfl rfl, by decide +kernel, by simp⟩
set_option maxRecDepth 20000 in
theorem nl_RX6_18 : ab_N RX6 18 5 13 [.int 0, .int 0, .int 0, .null, .null, .null, .null, .null, .null, .null, .null, .null, .null] := ⟨RX5, TX5, tyX5, rfl, uw_5, tyX5_ok, ab_in (i := 100) rfl rfl, ab_in (i := 101) rfl rfl, ab_in (i := 60) rfl rfl, by decide +kernel, by simp⟩
set_option maxRecDepth 20000 in
theorem nl_RX9_7 : ab_N RX9 7 6 7 [.null, .null, .null, .int 0, .int 0, .int 0, .int 0] := ⟨RX6, TX6, tyX6, rfl, uw_6, tyX6_ok, ab_in (i := 79) rfl rfl, ab_in (i := 80) rfl rfl, ab_in (i := 58) rfl rfl, by decide +kernel, by simp⟩
set_option maxRecDepth 20000 in
theorem nl_RX9_16 : ab_N RX9 16 5 13 [.int 0, .int 0, .int 0, .null, .null, .null, .null, .null, .null, .null, .null, .null, .null] := ⟨RX5, TX5, tyX5, rfl, uw_5, tyX5_ok, ab_in (i := 201) rfl rfl, ab_in (i := 101) rfl rfl, ab_in (i := 60) rfl rfl, by decide +kernel, by simp⟩
set_option maxRecDepth 20000 in
theorem nl_RX9_23 : ab_N RX9 23 8 1 [.null] := ⟨RX8, TX8, tyX8, rfl, uw_8, tyX8_ok, ab_in (i := 203) rfl rfl, ab_in (i := 204) rfl rfl, ab_in (i := 61) rfl rfl, by decide +kernel, by simp⟩
set_option maxRecDepth 20000 in
theorem nl_RX9_30 : ab_N RX9 30 4 5 [.null, .null, .int 0, .int 0, .int 0] := ⟨RX4, TX4, tyX4, rfl, uw_4, tyX4_ok, ab_in (i := 214) rfl rfl, ab_in (i := 215) rfl rfl, ab_in (i := 62) rfl rfl, by decide +kernel, by simp⟩
set_option maxRecDepth 20000 in
theorem nl_RX9_37 : ab_N RX9 37 3 6 [.null, .null, .null, .null, .int 0, .int 0] := ⟨RX3, TX3, tyX3, rfl, uw_3, tyX3_ok, ab_in (i := 237) rfl rfl, ab_in (i := 238) rfl rfl, ab_in (i := 63) rfl rfl, by decide +kernel, by simp⟩
set_option maxRecDepth 20000 in
theorem nl_RX9_44 : ab_N RX9 44 0 8 [.null, .null, .null, .null, .null, .int 0, .int 0, .int 0] := ⟨RX0, TX0, tyX0, rfl, uw_0, tyX0_ok, ab_in (i := 264) rfl rfl, ab_in (i := 265) rfl rfl, ab_in (i := 64) rfl rfl, by decide +kernel, by simp⟩
set_option maxRecDepth 20000 in
theorem nl_RX9_51 : ab_N RX9 51 7 2 [.null, .int 0] := ⟨RX7, TX7, tyX7, rfl, uw_7, tyX7_ok, ab_in (i := 297) rfl rfl, ab_in (i := 298) rfl rfl, ab_in (i := 65) rfl rfl, by decide +kernel, by simp⟩
set_option maxRecDepth 20000 in
theorem nl_RX9_58 : ab_N RX9 58 1 4 [.null, .null, .null, .int 0] := ⟨RX1, TX1, tyX1, rfl, uw_1, tyX1_ok, ab_in (i := 312) rfl rfl, ab_in (i := 313) rfl rfl, ab_in (i := 66) rfl rfl, by decide +kernel, by simp⟩
set_option maxRecDepth 20000 in
theorem nl_RL_7 : ab_N RL 7 9 9 [.null, .null, .null, .null, .null, .null, .null, .null, .int 0] := ⟨RX9, TX9, tyX9, rfl, uw_9, tyX9_ok, ab_in (i := 71) rfl rfl, ab_in (i := 72) rfl rfl, ab_in (i := 57) rfl rfl, by decide +kernel, by simp⟩
set_option maxRecDepth 20000 in
theorem nl_RL_10 : ab_N RL 10 10 45 [.int 0, .null, .null, .int 0, .null, .null, .null, .int 0, .null, .null, .null, .null, .null, .int 0, .null, .int 0, .int 0, .int 0, .int 0, .int 0, .int 0, .null, .null, .null, .int 0, .null, .null, .null, .int 0, .null, .null, .null, .null, .int 0, .null, .int 0, .int 0, .int 0, .null, .null, .int 0, .null, .null, .null, .null] := ⟨RX10, TX10, tyX10, rfl, uw_10, tyX10_ok, ab_in (i := 882) rfl rfl, ab_in (i := 883) rfl rfl, ab_in (i := 67) rfl rfl, by decide +kernel, by simp⟩
