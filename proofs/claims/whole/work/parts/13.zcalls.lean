section KC
set_option maxRecDepth 20000 in
theorem kI_5_70 : hp_LI 5 70 yX3_init cX3_init 1 0 := ⟨hp_in 43 rfl rfl, hp_in 44 rfl rfl, hp_in 28 rfl rfl, hp_in 45 rfl rfl, rfl, by decide +kernel⟩
set_option maxRecDepth 20000 in
theorem kI_3_11 : hp_LI 3 11 yX1_init cX1_init 4 3 := ⟨hp_in 51 rfl rfl, hp_in 52 rfl rfl, hp_in 29 rfl rfl, hp_in 53 rfl rfl, rfl, by decide +kernel⟩
set_option maxRecDepth 20000 in
theorem kV_5_102 : hp_LV 5 102 3 yX3_turn cX3_turn 1 (some .boolean) 0 := ⟨hp_in 166 rfl rfl, hp_in 167 rfl rfl, hp_in 168 rfl rfl, hp_in 28 rfl rfl, hp_in 169 rfl rfl, by decide +kernel⟩
set_option maxRecDepth 20000 in
theorem kV_3_120 : hp_LV 3 120 3 yX3_takeTurn cX3_takeTurn 4 (some .boolean) 0 := ⟨hp_in 170 rfl rfl, hp_in 172 rfl rfl, hp_in 0 rfl rfl, hp_in 28 rfl rfl, hp_in 173 rfl rfl, by decide +kernel⟩
set_option maxRecDepth 20000 in
theorem kV_3_212 : hp_LV 3 212 3 yX3_goDown cX3_goDown 3 (some (.object "TurnTree$Node")) 0 := ⟨hp_in 174 rfl rfl, hp_in 176 rfl rfl, hp_in 1 rfl rfl, hp_in 28 rfl rfl, hp_in 177 rfl rfl, by decide +kernel⟩
set_option maxRecDepth 20000 in
theorem kV_3_226 : hp_LV 3 226 1 yX1_leastOpenChild cX1_leastOpenChild 3 (some (.object "TurnTree$Node")) 0 := ⟨hp_in 178 rfl rfl, hp_in 179 rfl rfl, hp_in 180 rfl rfl, hp_in 29 rfl rfl, hp_in 181 rfl rfl, by decide +kernel⟩
set_option maxRecDepth 20000 in
theorem kV_1_46 : hp_LV 1 46 1 yX1_comesBefore cX1_comesBefore 2 (some .boolean) 1 := ⟨hp_in 182 rfl rfl, hp_in 183 rfl rfl, hp_in 184 rfl rfl, hp_in 29 rfl rfl, hp_in 185 rfl rfl, by decide +kernel⟩
set_option maxRecDepth 20000 in
theorem kV_3_216 : hp_LV 3 216 0 yX0_leave cX0_leave 2 (some (.object "TurnTree$Packet")) 0 := ⟨hp_in 186 rfl rfl, hp_in 187 rfl rfl, hp_in 188 rfl rfl, hp_in 30 rfl rfl, hp_in 189 rfl rfl, by decide +kernel⟩
set_option maxRecDepth 20000 in
theorem kV_3_219 : hp_LV 3 219 1 yX1_charge cX1_charge 3 none 1 := ⟨hp_in 190 rfl rfl, hp_in 191 rfl rfl, hp_in 192 rfl rfl, hp_in 29 rfl rfl, hp_in 193 rfl rfl, by decide +kernel⟩
set_option maxRecDepth 20000 in
theorem kV_3_223 : hp_LV 3 223 3 yX3_endHolds cX3_endHolds 3 none 0 := ⟨hp_in 195 rfl rfl, hp_in 197 rfl rfl, hp_in 2 rfl rfl, hp_in 28 rfl rfl, hp_in 198 rfl rfl, by decide +kernel⟩
set_option maxRecDepth 20000 in
theorem kV_3_141 : hp_LV 3 141 3 yX3_settle cX3_settle 4 none 1 := ⟨hp_in 199 rfl rfl, hp_in 201 rfl rfl, hp_in 3 rfl rfl, hp_in 28 rfl rfl, hp_in 202 rfl rfl, by decide +kernel⟩
set_option maxRecDepth 20000 in
theorem kV_3_232 : hp_LV 3 232 1 yX1_hasOpenContent cX1_hasOpenContent 1 (some .boolean) 0 := ⟨hp_in 203 rfl rfl, hp_in 204 rfl rfl, hp_in 205 rfl rfl, hp_in 29 rfl rfl, hp_in 206 rfl rfl, by decide +kernel⟩
set_option maxRecDepth 20000 in
theorem kV_3_235 : hp_LV 3 235 1 yX1_catchUp cX1_catchUp 1 none 0 := ⟨hp_in 207 rfl rfl, hp_in 208 rfl rfl, hp_in 209 rfl rfl, hp_in 29 rfl rfl, hp_in 210 rfl rfl, by decide +kernel⟩
set_option maxRecDepth 20000 in
theorem kV_5_7 : hp_LV 5 7 3 yX3_add cX3_add 7 (some .int) 3 := ⟨hp_in 218 rfl rfl, hp_in 219 rfl rfl, hp_in 220 rfl rfl, hp_in 28 rfl rfl, hp_in 221 rfl rfl, by decide +kernel⟩
set_option maxRecDepth 20000 in
theorem kV_3_32 : hp_LV 3 32 3 yX3_existing cX3_existing 2 (some (.object "TurnTree$Node")) 1 := ⟨hp_in 222 rfl rfl, hp_in 224 rfl rfl, hp_in 4 rfl rfl, hp_in 28 rfl rfl, hp_in 225 rfl rfl, by decide +kernel⟩
set_option maxRecDepth 20000 in
theorem kS_3_36 : hp_LS 3 36 yX3_isWeight cX3_isWeight 1 (some .boolean) 1 := ⟨hp_in 290 rfl rfl, hp_in 291 rfl rfl, hp_in 28 rfl rfl, hp_in 292 rfl rfl, by decide +kernel⟩
set_option maxRecDepth 20000 in
theorem kV_3_55 : hp_LV 3 55 3 yX3_leastFreeNumber cX3_leastFreeNumber 2 (some .int) 0 := ⟨hp_in 323 rfl rfl, hp_in 325 rfl rfl, hp_in 6 rfl rfl, hp_in 28 rfl rfl, hp_in 326 rfl rfl, by decide +kernel⟩
set_option maxRecDepth 20000 in
theorem kV_3_62 : hp_LV 3 62 1 yX1_adopt cX1_adopt 2 none 1 := ⟨hp_in 342 rfl rfl, hp_in 343 rfl rfl, hp_in 344 rfl rfl, hp_in 29 rfl rfl, hp_in 345 rfl rfl, by decide +kernel⟩
set_option maxRecDepth 20000 in
theorem kV_5_21 : hp_LV 5 21 3 yX3_remove cX3_remove 4 none 1 := ⟨hp_in 349 rfl rfl, hp_in 350 rfl rfl, hp_in 351 rfl rfl, hp_in 28 rfl rfl, hp_in 352 rfl rfl, by decide +kernel⟩
set_option maxRecDepth 20000 in
theorem kV_3_69 : hp_LV 3 69 1 yX1_isLeaf cX1_isLeaf 1 (some .boolean) 0 := ⟨hp_in 353 rfl rfl, hp_in 354 rfl rfl, hp_in 355 rfl rfl, hp_in 29 rfl rfl, hp_in 356 rfl rfl, by decide +kernel⟩
set_option maxRecDepth 20000 in
theorem kV_3_73 : hp_LV 3 73 1 yX1_letGo cX1_letGo 3 none 1 := ⟨hp_in 357 rfl rfl, hp_in 358 rfl rfl, hp_in 359 rfl rfl, hp_in 29 rfl rfl, hp_in 360 rfl rfl, by decide +kernel⟩
set_option maxRecDepth 20000 in
theorem kV_5_25 : hp_LV 5 25 3 yX3_weight cX3_weight 4 none 2 := ⟨hp_in 364 rfl rfl, hp_in 365 rfl rfl, hp_in 366 rfl rfl, hp_in 28 rfl rfl, hp_in 367 rfl rfl, by decide +kernel⟩
set_option maxRecDepth 20000 in
theorem kV_3_79 : hp_LV 3 79 3 yX3_existingBelowRoot cX3_existingBelowRoot 2 (some (.object "TurnTree$Node")) 1 := ⟨hp_in 368 rfl rfl, hp_in 370 rfl rfl, hp_in 7 rfl rfl, hp_in 28 rfl rfl, hp_in 371 rfl rfl, by decide +kernel⟩
set_option maxRecDepth 20000 in
theorem kV_5_29 : hp_LV 5 29 3 yX3_move cX3_move 6 none 2 := ⟨hp_in 375 rfl rfl, hp_in 376 rfl rfl, hp_in 377 rfl rfl, hp_in 28 rfl rfl, hp_in 378 rfl rfl, by decide +kernel⟩
set_option maxRecDepth 20000 in
theorem kV_3_88 : hp_LV 3 88 1 yX1_isInside cX1_isInside 3 (some .boolean) 1 := ⟨hp_in 379 rfl rfl, hp_in 380 rfl rfl, hp_in 381 rfl rfl, hp_in 29 rfl rfl, hp_in 382 rfl rfl, by decide +kernel⟩
set_option maxRecDepth 20000 in
theorem kV_3_103 : hp_LV 3 103 3 yX3_carryOpenness cX3_carryOpenness 3 none 2 := ⟨hp_in 383 rfl rfl, hp_in 385 rfl rfl, hp_in 8 rfl rfl, hp_in 28 rfl rfl, hp_in 386 rfl rfl, by decide +kernel⟩
set_option maxRecDepth 20000 in
theorem kV_5_32 : hp_LV 5 32 3 yX3_put cX3_put 5 (some .boolean) 3 := ⟨hp_in 390 rfl rfl, hp_in 391 rfl rfl, hp_in 392 rfl rfl, hp_in 28 rfl rfl, hp_in 393 rfl rfl, by decide +kernel⟩
set_option maxRecDepth 20000 in
theorem kV_3_107 : hp_LV 3 107 3 yX3_existingLeaf cX3_existingLeaf 3 (some (.object "TurnTree$Node")) 1 := ⟨hp_in 394 rfl rfl, hp_in 396 rfl rfl, hp_in 9 rfl rfl, hp_in 28 rfl rfl, hp_in 397 rfl rfl, by decide +kernel⟩
set_option maxRecDepth 20000 in
theorem kS_3_110 : hp_LS 3 110 yX3_isLength cX3_isLength 1 (some .boolean) 1 := ⟨hp_in 398 rfl rfl, hp_in 399 rfl rfl, hp_in 28 rfl rfl, hp_in 400 rfl rfl, by decide +kernel⟩
set_option maxRecDepth 20000 in
theorem kV_3_116 : hp_LV 3 116 3 yX3_takeOrDrop cX3_takeOrDrop 5 (some .boolean) 3 := ⟨hp_in 401 rfl rfl, hp_in 403 rfl rfl, hp_in 10 rfl rfl, hp_in 28 rfl rfl, hp_in 404 rfl rfl, by decide +kernel⟩
set_option maxRecDepth 20000 in
theorem kV_3_197 : hp_LV 3 197 3 yX3_unusedPacket cX3_unusedPacket 2 (some (.object "TurnTree$Packet")) 0 := ⟨hp_in 405 rfl rfl, hp_in 407 rfl rfl, hp_in 11 rfl rfl, hp_in 28 rfl rfl, hp_in 408 rfl rfl, by decide +kernel⟩
set_option maxRecDepth 20000 in
theorem kV_3_204 : hp_LV 3 204 0 yX0_join cX0_join 2 none 1 := ⟨hp_in 427 rfl rfl, hp_in 428 rfl rfl, hp_in 429 rfl rfl, hp_in 30 rfl rfl, hp_in 430 rfl rfl, by decide +kernel⟩
set_option maxRecDepth 20000 in
theorem kV_5_36 : hp_LV 5 36 3 yX3_putAll cX3_putAll 7 (some .int) 4 := ⟨hp_in 434 rfl rfl, hp_in 435 rfl rfl, hp_in 436 rfl rfl, hp_in 28 rfl rfl, hp_in 437 rfl rfl, by decide +kernel⟩
set_option maxRecDepth 20000 in
theorem kV_5_40 : hp_LV 5 40 3 yX3_turns cX3_turns 3 (some .int) 1 := ⟨hp_in 441 rfl rfl, hp_in 442 rfl rfl, hp_in 443 rfl rfl, hp_in 28 rfl rfl, hp_in 444 rfl rfl, by decide +kernel⟩
set_option maxRecDepth 20000 in
theorem kS_3_123 : hp_LS 3 123 yX3_isNumberOfTurns cX3_isNumberOfTurns 1 (some .boolean) 1 := ⟨hp_in 445 rfl rfl, hp_in 446 rfl rfl, hp_in 28 rfl rfl, hp_in 447 rfl rfl, by decide +kernel⟩
set_option maxRecDepth 20000 in
theorem kV_5_44 : hp_LV 5 44 3 yX3_latest cX3_latest 2 (some .int) 1 := ⟨hp_in 451 rfl rfl, hp_in 452 rfl rfl, hp_in 453 rfl rfl, hp_in 28 rfl rfl, hp_in 454 rfl rfl, by decide +kernel⟩
set_option maxRecDepth 20000 in
theorem kV_5_47 : hp_LV 5 47 3 yX3_clear cX3_clear 6 (some .int) 1 := ⟨hp_in 458 rfl rfl, hp_in 459 rfl rfl, hp_in 460 rfl rfl, hp_in 28 rfl rfl, hp_in 461 rfl rfl, by decide +kernel⟩
set_option maxRecDepth 20000 in
theorem kV_3_129 : hp_LV 3 129 3 yX3_classInside cX3_classInside 4 (some (.object "TurnTree$Node")) 2 := ⟨hp_in 462 rfl rfl, hp_in 464 rfl rfl, hp_in 12 rfl rfl, hp_in 28 rfl rfl, hp_in 465 rfl rfl, by decide +kernel⟩
set_option maxRecDepth 20000 in
theorem kV_3_137 : hp_LV 3 137 0 yX0_emptyOnto cX0_emptyOnto 3 (some (.object "TurnTree$Packet")) 1 := ⟨hp_in 466 rfl rfl, hp_in 467 rfl rfl, hp_in 468 rfl rfl, hp_in 30 rfl rfl, hp_in 469 rfl rfl, by decide +kernel⟩
set_option maxRecDepth 20000 in
theorem kV_5_50 : hp_LV 5 50 3 yX3_hold cX3_hold 4 none 2 := ⟨hp_in 473 rfl rfl, hp_in 474 rfl rfl, hp_in 475 rfl rfl, hp_in 28 rfl rfl, hp_in 476 rfl rfl, by decide +kernel⟩
set_option maxRecDepth 20000 in
theorem kV_5_53 : hp_LV 5 53 3 yX3_child cX3_child 4 (some .int) 2 := ⟨hp_in 483 rfl rfl, hp_in 484 rfl rfl, hp_in 485 rfl rfl, hp_in 28 rfl rfl, hp_in 486 rfl rfl, by decide +kernel⟩
set_option maxRecDepth 20000 in
theorem kV_3_162 : hp_LV 3 162 1 yX1_childOfRank cX1_childOfRank 3 (some (.object "TurnTree$Node")) 1 := ⟨hp_in 487 rfl rfl, hp_in 488 rfl rfl, hp_in 489 rfl rfl, hp_in 29 rfl rfl, hp_in 490 rfl rfl, by decide +kernel⟩
set_option maxRecDepth 20000 in
theorem kV_1_50 : hp_LV 1 50 1 yX1_countChildrenBefore cX1_countChildrenBefore 4 (some .int) 1 := ⟨hp_in 491 rfl rfl, hp_in 492 rfl rfl, hp_in 493 rfl rfl, hp_in 29 rfl rfl, hp_in 494 rfl rfl, by decide +kernel⟩
set_option maxRecDepth 20000 in
theorem kV_5_57 : hp_LV 5 57 3 yX3_packet cX3_packet 4 (some .int) 2 := ⟨hp_in 498 rfl rfl, hp_in 499 rfl rfl, hp_in 500 rfl rfl, hp_in 28 rfl rfl, hp_in 501 rfl rfl, by decide +kernel⟩
set_option maxRecDepth 20000 in
theorem kV_3_168 : hp_LV 3 168 0 yX0_packetAt cX0_packetAt 4 (some (.object "TurnTree$Packet")) 1 := ⟨hp_in 502 rfl rfl, hp_in 503 rfl rfl, hp_in 504 rfl rfl, hp_in 30 rfl rfl, hp_in 505 rfl rfl, by decide +kernel⟩
set_option maxRecDepth 20000 in
theorem kV_5_60 : hp_LV 5 60 3 yX3_sum cX3_sum 4 (some .long) 2 := ⟨hp_in 509 rfl rfl, hp_in 510 rfl rfl, hp_in 511 rfl rfl, hp_in 28 rfl rfl, hp_in 512 rfl rfl, by decide +kernel⟩
set_option maxRecDepth 20000 in
theorem kV_3_180 : hp_LV 3 180 3 yX3_bytesInside cX3_bytesInside 6 (some .long) 1 := ⟨hp_in 513 rfl rfl, hp_in 515 rfl rfl, hp_in 13 rfl rfl, hp_in 28 rfl rfl, hp_in 516 rfl rfl, by decide +kernel⟩
set_option maxRecDepth 20000 in
theorem kV_5_64 : hp_LV 5 64 3 yX3_about cX3_about 4 (some .int) 2 := ⟨hp_in 520 rfl rfl, hp_in 521 rfl rfl, hp_in 522 rfl rfl, hp_in 28 rfl rfl, hp_in 523 rfl rfl, by decide +kernel⟩
set_option maxRecDepth 20000 in
theorem kV_3_184 : hp_LV 3 184 1 yX1_countChildren cX1_countChildren 3 (some .int) 0 := ⟨hp_in 524 rfl rfl, hp_in 525 rfl rfl, hp_in 526 rfl rfl, hp_in 29 rfl rfl, hp_in 527 rfl rfl, by decide +kernel⟩
set_option maxRecDepth 20000 in
theorem kV_3_187 : hp_LV 3 187 3 yX3_packetsInside cX3_packetsInside 5 (some .int) 1 := ⟨hp_in 528 rfl rfl, hp_in 530 rfl rfl, hp_in 14 rfl rfl, hp_in 28 rfl rfl, hp_in 531 rfl rfl, by decide +kernel⟩
set_option maxRecDepth 20000 in
theorem kV_5_67 : hp_LV 5 67 3 yX3_count cX3_count 2 (some .int) 1 := ⟨hp_in 535 rfl rfl, hp_in 536 rfl rfl, hp_in 537 rfl rfl, hp_in 28 rfl rfl, hp_in 538 rfl rfl, by decide +kernel⟩
set_option maxRecDepth 20000 in
theorem kV_3_194 : hp_LV 3 194 3 yX3_openLeaves cX3_openLeaves 4 (some .int) 0 := ⟨hp_in 539 rfl rfl, hp_in 541 rfl rfl, hp_in 15 rfl rfl, hp_in 28 rfl rfl, hp_in 542 rfl rfl, by decide +kernel⟩
set_option maxRecDepth 20000 in
theorem kI_5_73 : hp_LI 5 73 yX4_init cX4_init 2 0 := ⟨hp_in 545 rfl rfl, hp_in 546 rfl rfl, hp_in 31 rfl rfl, hp_in 547 rfl rfl, rfl, by decide +kernel⟩
set_option maxRecDepth 20000 in
theorem kV_5_80 : hp_LV 5 80 4 yX4_thrown cX4_thrown 1 (some .int) 0 := ⟨hp_in 613 rfl rfl, hp_in 614 rfl rfl, hp_in 615 rfl rfl, hp_in 31 rfl rfl, hp_in 616 rfl rfl, by decide +kernel⟩
set_option maxRecDepth 20000 in
theorem kV_5_79 : hp_LV 5 79 4 yX4_add cX4_add 5 (some .int) 3 := ⟨hp_in 617 rfl rfl, hp_in 618 rfl rfl, hp_in 619 rfl rfl, hp_in 31 rfl rfl, hp_in 620 rfl rfl, by decide +kernel⟩
set_option maxRecDepth 20000 in
theorem kV_4_71 : hp_LV 4 71 4 yX4_isThere cX4_isThere 2 (some .boolean) 1 := ⟨hp_in 621 rfl rfl, hp_in 623 rfl rfl, hp_in 16 rfl rfl, hp_in 31 rfl rfl, hp_in 624 rfl rfl, by decide +kernel⟩
set_option maxRecDepth 20000 in
theorem kV_4_75 : hp_LV 4 75 4 yX4_own cX4_own 4 (some .int) 1 := ⟨hp_in 625 rfl rfl, hp_in 627 rfl rfl, hp_in 17 rfl rfl, hp_in 31 rfl rfl, hp_in 628 rfl rfl, by decide +kernel⟩
set_option maxRecDepth 20000 in
theorem kV_4_78 : hp_LV 4 78 4 yX4_settle cX4_settle 2 none 0 := ⟨hp_in 629 rfl rfl, hp_in 631 rfl rfl, hp_in 18 rfl rfl, hp_in 31 rfl rfl, hp_in 632 rfl rfl, by decide +kernel⟩
set_option maxRecDepth 20000 in
theorem kV_4_68 : hp_LV 4 68 4 yX4_look cX4_look 4 none 0 := ⟨hp_in 633 rfl rfl, hp_in 635 rfl rfl, hp_in 19 rfl rfl, hp_in 31 rfl rfl, hp_in 636 rfl rfl, by decide +kernel⟩
set_option maxRecDepth 20000 in
theorem kV_5_87 : hp_LV 5 87 4 yX4_remove cX4_remove 2 none 1 := ⟨hp_in 637 rfl rfl, hp_in 638 rfl rfl, hp_in 639 rfl rfl, hp_in 31 rfl rfl, hp_in 640 rfl rfl, by decide +kernel⟩
set_option maxRecDepth 20000 in
theorem kV_4_81 : hp_LV 4 81 4 yX4_isLeaf cX4_isLeaf 2 (some .boolean) 1 := ⟨hp_in 641 rfl rfl, hp_in 643 rfl rfl, hp_in 20 rfl rfl, hp_in 31 rfl rfl, hp_in 644 rfl rfl, by decide +kernel⟩
set_option maxRecDepth 20000 in
theorem kV_4_61 : hp_LV 4 61 4 yX4_children cX4_children 4 (some .int) 1 := ⟨hp_in 645 rfl rfl, hp_in 647 rfl rfl, hp_in 21 rfl rfl, hp_in 31 rfl rfl, hp_in 648 rfl rfl, by decide +kernel⟩
set_option maxRecDepth 20000 in
theorem kV_5_91 : hp_LV 5 91 4 yX4_weight cX4_weight 3 none 2 := ⟨hp_in 649 rfl rfl, hp_in 650 rfl rfl, hp_in 651 rfl rfl, hp_in 31 rfl rfl, hp_in 652 rfl rfl, by decide +kernel⟩
set_option maxRecDepth 20000 in
theorem kV_5_94 : hp_LV 5 94 4 yX4_move cX4_move 3 none 2 := ⟨hp_in 653 rfl rfl, hp_in 654 rfl rfl, hp_in 655 rfl rfl, hp_in 31 rfl rfl, hp_in 656 rfl rfl, by decide +kernel⟩
set_option maxRecDepth 20000 in
theorem kV_4_84 : hp_LV 4 84 4 yX4_isUnder cX4_isUnder 4 (some .boolean) 2 := ⟨hp_in 657 rfl rfl, hp_in 659 rfl rfl, hp_in 22 rfl rfl, hp_in 31 rfl rfl, hp_in 660 rfl rfl, by decide +kernel⟩
set_option maxRecDepth 20000 in
theorem kV_5_97 : hp_LV 5 97 4 yX4_put cX4_put 5 (some .boolean) 3 := ⟨hp_in 661 rfl rfl, hp_in 662 rfl rfl, hp_in 663 rfl rfl, hp_in 31 rfl rfl, hp_in 664 rfl rfl, by decide +kernel⟩
set_option maxRecDepth 20000 in
theorem kV_4_91 : hp_LV 4 91 4 yX4_come cX4_come 4 (some .boolean) 3 := ⟨hp_in 665 rfl rfl, hp_in 667 rfl rfl, hp_in 23 rfl rfl, hp_in 31 rfl rfl, hp_in 668 rfl rfl, by decide +kernel⟩
set_option maxRecDepth 20000 in
theorem kV_5_101 : hp_LV 5 101 4 yX4_putAll cX4_putAll 7 (some .int) 4 := ⟨hp_in 669 rfl rfl, hp_in 670 rfl rfl, hp_in 671 rfl rfl, hp_in 31 rfl rfl, hp_in 672 rfl rfl, by decide +kernel⟩
set_option maxRecDepth 20000 in
theorem kV_5_106 : hp_LV 5 106 4 yX4_turn cX4_turn 1 (some .boolean) 0 := ⟨hp_in 673 rfl rfl, hp_in 674 rfl rfl, hp_in 675 rfl rfl, hp_in 31 rfl rfl, hp_in 676 rfl rfl, by decide +kernel⟩
set_option maxRecDepth 20000 in
theorem kV_4_110 : hp_LV 4 110 4 yX4_isTurned cX4_isTurned 6 (some .boolean) 0 := ⟨hp_in 677 rfl rfl, hp_in 679 rfl rfl, hp_in 24 rfl rfl, hp_in 31 rfl rfl, hp_in 680 rfl rfl, by decide +kernel⟩
set_option maxRecDepth 20000 in
theorem kV_4_95 : hp_LV 4 95 4 yX4_next cX4_next 4 (some .int) 1 := ⟨hp_in 681 rfl rfl, hp_in 683 rfl rfl, hp_in 25 rfl rfl, hp_in 31 rfl rfl, hp_in 684 rfl rfl, by decide +kernel⟩
set_option maxRecDepth 20000 in
theorem kV_4_101 : hp_LV 4 101 4 yX4_removePacket cX4_removePacket 3 none 1 := ⟨hp_in 685 rfl rfl, hp_in 687 rfl rfl, hp_in 26 rfl rfl, hp_in 31 rfl rfl, hp_in 688 rfl rfl, by decide +kernel⟩
set_option maxRecDepth 20000 in
theorem kV_5_110 : hp_LV 5 110 4 yX4_turns cX4_turns 3 (some .int) 1 := ⟨hp_in 690 rfl rfl, hp_in 691 rfl rfl, hp_in 692 rfl rfl, hp_in 31 rfl rfl, hp_in 693 rfl rfl, by decide +kernel⟩
set_option maxRecDepth 20000 in
theorem kV_5_113 : hp_LV 5 113 4 yX4_latest cX4_latest 2 (some .int) 1 := ⟨hp_in 694 rfl rfl, hp_in 695 rfl rfl, hp_in 696 rfl rfl, hp_in 31 rfl rfl, hp_in 697 rfl rfl, by decide +kernel⟩
set_option maxRecDepth 20000 in
theorem kV_5_116 : hp_LV 5 116 4 yX4_clear cX4_clear 4 (some .int) 1 := ⟨hp_in 698 rfl rfl, hp_in 699 rfl rfl, hp_in 700 rfl rfl, hp_in 31 rfl rfl, hp_in 701 rfl rfl, by decide +kernel⟩
set_option maxRecDepth 20000 in
theorem kV_5_119 : hp_LV 5 119 4 yX4_hold cX4_hold 3 none 2 := ⟨hp_in 702 rfl rfl, hp_in 703 rfl rfl, hp_in 704 rfl rfl, hp_in 31 rfl rfl, hp_in 705 rfl rfl, by decide +kernel⟩
set_option maxRecDepth 20000 in
theorem kV_5_123 : hp_LV 5 123 4 yX4_child cX4_child 6 (some .int) 2 := ⟨hp_in 706 rfl rfl, hp_in 707 rfl rfl, hp_in 708 rfl rfl, hp_in 31 rfl rfl, hp_in 709 rfl rfl, by decide +kernel⟩
set_option maxRecDepth 20000 in
theorem kV_5_126 : hp_LV 5 126 4 yX4_packet cX4_packet 5 (some .int) 2 := ⟨hp_in 710 rfl rfl, hp_in 711 rfl rfl, hp_in 712 rfl rfl, hp_in 31 rfl rfl, hp_in 713 rfl rfl, by decide +kernel⟩
set_option maxRecDepth 20000 in
theorem kV_5_129 : hp_LV 5 129 4 yX4_sum cX4_sum 6 (some .long) 2 := ⟨hp_in 714 rfl rfl, hp_in 715 rfl rfl, hp_in 716 rfl rfl, hp_in 31 rfl rfl, hp_in 717 rfl rfl, by decide +kernel⟩
set_option maxRecDepth 20000 in
theorem kV_5_132 : hp_LV 5 132 4 yX4_about cX4_about 5 (some .int) 2 := ⟨hp_in 718 rfl rfl, hp_in 719 rfl rfl, hp_in 720 rfl rfl, hp_in 31 rfl rfl, hp_in 721 rfl rfl, by decide +kernel⟩
set_option maxRecDepth 20000 in
theorem kV_5_135 : hp_LV 5 135 4 yX4_count cX4_count 5 (some .int) 1 := ⟨hp_in 722 rfl rfl, hp_in 723 rfl rfl, hp_in 724 rfl rfl, hp_in 31 rfl rfl, hp_in 725 rfl rfl, by decide +kernel⟩
end KC
