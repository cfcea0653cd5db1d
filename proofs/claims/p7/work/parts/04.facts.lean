theorem tk_1 {w : Cond} (h : w ∈ tables_1_1) : w ∈ tables_1 := List.mem_append_left _ h
theorem gk_1 {w : Cond} (h : w ∈ tables_1_1) (g : goodWord w = true) : w ∈ gtb := gtb_of (List.mem_append_right _ (tk_1 h)) g
theorem tk_2 {w : Cond} (h : w ∈ tables_1_2) : w ∈ tables_1 := List.mem_append_right _ (List.mem_append_left _ h)
theorem gk_2 {w : Cond} (h : w ∈ tables_1_2) (g : goodWord w = true) : w ∈ gtb := gtb_of (List.mem_append_right _ (tk_2 h)) g
theorem tk_3 {w : Cond} (h : w ∈ tables_1_3) : w ∈ tables_1 := List.mem_append_right _ (List.mem_append_right _ (List.mem_append_left _ h))
theorem gk_3 {w : Cond} (h : w ∈ tables_1_3) (g : goodWord w = true) : w ∈ gtb := gtb_of (List.mem_append_right _ (tk_3 h)) g
theorem tk_4 {w : Cond} (h : w ∈ tables_1_4) : w ∈ tables_1 := List.mem_append_right _ (List.mem_append_right _ (List.mem_append_right _ (List.mem_append_left _ h)))
theorem gk_4 {w : Cond} (h : w ∈ tables_1_4) (g : goodWord w = true) : w ∈ gtb := gtb_of (List.mem_append_right _ (tk_4 h)) g
theorem tk_5 {w : Cond} (h : w ∈ tables_1_5) : w ∈ tables_1 := List.mem_append_right _ (List.mem_append_right _ (List.mem_append_right _ (List.mem_append_right _ (List.mem_append_left _ h))))
theorem gk_5 {w : Cond} (h : w ∈ tables_1_5) (g : goodWord w = true) : w ∈ gtb := gtb_of (List.mem_append_right _ (tk_5 h)) g
theorem tk_6 {w : Cond} (h : w ∈ tables_1_6) : w ∈ tables_1 := List.mem_append_right _ (List.mem_append_right _ (List.mem_append_right _ (List.mem_append_right _ (List.mem_append_right _ (List.mem_append_left _ h)))))
theorem gk_6 {w : Cond} (h : w ∈ tables_1_6) (g : goodWord w = true) : w ∈ gtb := gtb_of (List.mem_append_right _ (tk_6 h)) g
theorem tk_7 {w : Cond} (h : w ∈ tables_1_7) : w ∈ tables_1 := List.mem_append_right _ (List.mem_append_right _ (List.mem_append_right _ (List.mem_append_right _ (List.mem_append_right _ (List.mem_append_right _ (List.mem_append_left _ h))))))
theorem gk_7 {w : Cond} (h : w ∈ tables_1_7) (g : goodWord w = true) : w ∈ gtb := gtb_of (List.mem_append_right _ (tk_7 h)) g
theorem tk_8 {w : Cond} (h : w ∈ tables_1_8) : w ∈ tables_1 := List.mem_append_right _ (List.mem_append_right _ (List.mem_append_right _ (List.mem_append_right _ (List.mem_append_right _ (List.mem_append_right _ (List.mem_append_right _ (h)))))))
theorem gk_8 {w : Cond} (h : w ∈ tables_1_8) (g : goodWord w = true) : w ∈ gtb := gtb_of (List.mem_append_right _ (tk_8 h)) g
def rft : List (List Nat) := [[2,4,13,39,65,72,79,361,384,392,397,0], [3,0], [], [5,0,0,0,0,0,10,11,0,12,0,0], [6,7,8,9], [], [], [], [], [], [], [], [0,0,0,0,0,14,15,16,17,18,19,20,21,22,26,30,34,38], [], [], [], [], [], [], [], [], [23,0,24,25], [], [], [], [27,0,28,29], [], [], [], [31,0,32,33], [], [], [], [35,0,36,37], [], [], [], [], [0,0,0,0,0,40,41,42,43,44,45,46,47,48,52,56,60,64], [], [], [], [], [], [], [], [], [49,0,50,51], [], [], [], [53,0,54,55], [], [], [], [57,0,58,59], [], [], [], [61,0,62,63], [], [], [], [], [0,0,0,0,66,67,68,69,70,71], [], [], [], [], [], [], [0,0,0,0,73,74,75,76,77,78], [], [], [], [], [], [], [80,0,0], [81,88,95,102,109,116,123,130,137,144,151,158,165,172,179,186,193,200,207,214,221,228,235,242,249,256,263,270,277,284,291,298,305,312,319,326,333,340,347,354], [0,0,0,0,82,83,84,85,86,87], [], [], [], [], [], [], [0,0,0,0,89,90,91,92,93,94], [], [], [], [], [], [], [0,0,0,0,96,97,98,99,100,101], [], [], [], [], [], [], [0,0,0,0,103,104,105,106,107,108], [], [], [], [], [], [], [0,0,0,0,110,111,112,113,114,115], [], [], [], [], [], [], [0,0,0,0,117,118,119,120,121,122], [], [], [], [], [], [], [0,0,0,0,124,125,126,127,128,129], [], [], [], [], [], [], [0,0,0,0,131,132,133,134,135,136], [], [], [], [], [], [], [0,0,0,0,138,139,140,141,142,143], [], [], [], [], [], [], [0,0,0,0,145,146,147,148,149,150], [], [], [], [], [], [], [0,0,0,0,152,153,154,155,156,157], [], [], [], [], [], [], [0,0,0,0,159,160,161,162,163,164], [], [], [], [], [], [], [0,0,0,0,166,167,168,169,170,171], [], [], [], [], [], [], [0,0,0,0,173,174,175,176,177,178], [], [], [], [], [], [], [0,0,0,0,180,181,182,183,184,185], [], [], [], [], [], [], [0,0,0,0,187,188,189,190,191,192], [], [], [], [], [], [], [0,0,0,0,194,195,196,197,198,199], [], [], [], [], [], [], [0,0,0,0,201,202,203,204,205,206], [], [], [], [], [], [], [0,0,0,0,208,209,210,211,212,213], [], [], [], [], [], [], [0,0,0,0,215,216,217,218,219,220], [], [], [], [], [], [], [0,0,0,0,222,223,224,225,226,227], [], [], [], [], [], [], [0,0,0,0,229,230,231,232,233,234], [], [], [], [], [], [], [0,0,0,0,236,237,238,239,240,241], [], [], [], [], [], [], [0,0,0,0,243,244,245,246,247,248], [], [], [], [], [], [], [0,0,0,0,250,251,252,253,254,255], [], [], [], [], [], [], [0,0,0,0,257,258,259,260,261,262], [], [], [], [], [], [], [0,0,0,0,264,265,266,267,268,269], [], [], [], [], [], [], [0,0,0,0,271,272,273,274,275,276], [], [], [], [], [], [], [0,0,0,0,278,279,280,281,282,283], [], [], [], [], [], [], [0,0,0,0,285,286,287,288,289,290], [], [], [], [], [], [], [0,0,0,0,292,293,294,295,296,297], [], [], [], [], [], [], [0,0,0,0,299,300,301,302,303,304], [], [], [], [], [], [], [0,0,0,0,306,307,308,309,310,311], [], [], [], [], [], [], [0,0,0,0,313,314,315,316,317,318], [], [], [], [], [], [], [0,0,0,0,320,321,322,323,324,325], [], [], [], [], [], [], [0,0,0,0,327,328,329,330,331,332], [], [], [], [], [], [], [0,0,0,0,334,335,336,337,338,339], [], [], [], [], [], [], [0,0,0,0,341,342,343,344,345,346], [], [], [], [], [], [], [0,0,0,0,348,349,350,351,352,353], [], [], [], [], [], [], [0,0,0,0,355,356,357,358,359,360], [], [], [], [], [], [], [362,0], [363,370,377], [0,0,0,0,364,365,366,367,368,369], [], [], [], [], [], [], [0,0,0,0,371,372,373,374,375,376], [], [], [], [], [], [], [0,0,0,0,378,379,380,381,382,383], [], [], [], [], [], [], [385,386,387,0,388,389,390,0,391], [], [], [], [], [], [], [], [393,394,395,0,0,396,0,0,0,0,0], [], [], [], [], [398,399,400,401,0], [], [], [], [], [0,403,0,404,0,405,406,407,408,409,0,0,0,0,0,0,0,0,0,0,0,410,411,412,413,414,415,416,417,418,419,420,421,422,423,424,425,426,0,427,428,429,430,431,0,432,433,434,0,435,436,0,437,438,0,439,440,0,441,0,0,0,0,0,0,442,443,444,445,446,447], [], [], [], [], [], [], [], [], [], [], [], [], [], [], [], [], [], [], [], [], [], [], [], [], [], [], [], [], [], [], [], [], [], [], [], [], [], [], [], [], [], [], [], [], []]
def rfd : Nat → Option Nat := fun x => match x with
  | 0 => none
  | y + 1 => some y
def rf (ld : Nat) : gR := fun a k => if a = 0 ∧ k = 2 then some ld else if a = 0 ∧ k = 3 then some (50 - ld) else rfd ((rft.getD a []).getD k 0)
theorem sh_0 : SH 0 = (0, 0) := by decide +kernel
theorem rf_0_0 (ld : Nat) : rf ld 0 0 = some 1 := rfl
theorem rf_0_1 (ld : Nat) : rf ld 0 1 = some 3 := rfl
theorem rf_0_4 (ld : Nat) : rf ld 0 4 = some 64 := rfl
theorem rf_0_5 (ld : Nat) : rf ld 0 5 = some 71 := rfl
theorem rf_0_6 (ld : Nat) : rf ld 0 6 = some 78 := rfl
theorem rf_0_7 (ld : Nat) : rf ld 0 7 = some 360 := rfl
theorem rf_0_8 (ld : Nat) : rf ld 0 8 = some 383 := rfl
theorem rf_0_9 (ld : Nat) : rf ld 0 9 = some 391 := rfl
theorem rf_0_10 (ld : Nat) : rf ld 0 10 = some 396 := rfl
theorem sh_1 : SH 1 = (0, 1) := by decide +kernel
theorem rf_1_0 (ld : Nat) : rf ld 1 0 = some 2 := rfl
theorem sh_2 : SH 2 = (1, 2000) := by decide +kernel
theorem sh_3 : SH 3 = (0, 2) := by decide +kernel
theorem rf_3_0 (ld : Nat) : rf ld 3 0 = some 4 := rfl
theorem rf_3_6 (ld : Nat) : rf ld 3 6 = some 9 := rfl
theorem rf_3_7 (ld : Nat) : rf ld 3 7 = some 10 := rfl
theorem rf_3_9 (ld : Nat) : rf ld 3 9 = some 11 := rfl
theorem sh_4 : SH 4 = (0, 3) := by decide +kernel
theorem rf_4_0 (ld : Nat) : rf ld 4 0 = some 5 := rfl
theorem rf_4_1 (ld : Nat) : rf ld 4 1 = some 6 := rfl
theorem rf_4_2 (ld : Nat) : rf ld 4 2 = some 7 := rfl
theorem rf_4_3 (ld : Nat) : rf ld 4 3 = some 8 := rfl
theorem sh_5 : SH 5 = (4, 21) := by decide +kernel
theorem sh_6 : SH 6 = (1, 401) := by decide +kernel
theorem sh_7 : SH 7 = (1, 401) := by decide +kernel
theorem sh_8 : SH 8 = (4, 401) := by decide +kernel
theorem sh_9 : SH 9 = (4, 21) := by decide +kernel
theorem sh_10 : SH 10 = (1, 21) := by decide +kernel
theorem sh_11 : SH 11 = (1, 32) := by decide +kernel
theorem sh_78 : SH 78 = (0, 7) := by decide +kernel
theorem rf_78_0 (ld : Nat) : rf ld 78 0 = some 79 := rfl
theorem sh_79 : SH 79 = (5, 40) := by decide +kernel
theorem sh_360 : SH 360 = (0, 8) := by decide +kernel
theorem rf_360_0 (ld : Nat) : rf ld 360 0 = some 361 := rfl
theorem sh_361 : SH 361 = (5, 3) := by decide +kernel
theorem sh_383 : SH 383 = (0, 9) := by decide +kernel
theorem rf_383_0 (ld : Nat) : rf ld 383 0 = some 384 := rfl
theorem rf_383_1 (ld : Nat) : rf ld 383 1 = some 385 := rfl
theorem rf_383_2 (ld : Nat) : rf ld 383 2 = some 386 := rfl
theorem rf_383_4 (ld : Nat) : rf ld 383 4 = some 387 := rfl
theorem rf_383_5 (ld : Nat) : rf ld 383 5 = some 388 := rfl
theorem rf_383_6 (ld : Nat) : rf ld 383 6 = some 389 := rfl
theorem rf_383_8 (ld : Nat) : rf ld 383 8 = some 390 := rfl
theorem sh_384 : SH 384 = (1, 20) := by decide +kernel
theorem sh_385 : SH 385 = (1, 20) := by decide +kernel
theorem sh_386 : SH 386 = (1, 20) := by decide +kernel
theorem sh_387 : SH 387 = (1, 65) := by decide +kernel
theorem sh_388 : SH 388 = (1, 65) := by decide +kernel
theorem sh_389 : SH 389 = (1, 195) := by decide +kernel
theorem sh_390 : SH 390 = (1, 100) := by decide +kernel
theorem sh_391 : SH 391 = (0, 10) := by decide +kernel
theorem rf_391_0 (ld : Nat) : rf ld 391 0 = some 392 := rfl
theorem rf_391_1 (ld : Nat) : rf ld 391 1 = some 393 := rfl
theorem rf_391_2 (ld : Nat) : rf ld 391 2 = some 394 := rfl
theorem rf_391_5 (ld : Nat) : rf ld 391 5 = some 395 := rfl
theorem sh_392 : SH 392 = (1, 3) := by decide +kernel
theorem sh_393 : SH 393 = (1, 6) := by decide +kernel
theorem sh_394 : SH 394 = (1, 3) := by decide +kernel
theorem sh_395 : SH 395 = (1, 6) := by decide +kernel
theorem sh_396 : SH 396 = (0, 11) := by decide +kernel
theorem rf_396_0 (ld : Nat) : rf ld 396 0 = some 397 := rfl
theorem rf_396_1 (ld : Nat) : rf ld 396 1 = some 398 := rfl
theorem rf_396_2 (ld : Nat) : rf ld 396 2 = some 399 := rfl
theorem rf_396_3 (ld : Nat) : rf ld 396 3 = some 400 := rfl
theorem sh_397 : SH 397 = (3, 4) := by decide +kernel
theorem sh_398 : SH 398 = (3, 80) := by decide +kernel
theorem sh_399 : SH 399 = (1, 4) := by decide +kernel
theorem sh_400 : SH 400 = (1, 4) := by decide +kernel
theorem sh_401 : SH 401 = (0, 12) := by decide +kernel
theorem rf_401_1 (ld : Nat) : rf ld 401 1 = some 402 := rfl
theorem rf_401_3 (ld : Nat) : rf ld 401 3 = some 403 := rfl
theorem rf_401_5 (ld : Nat) : rf ld 401 5 = some 404 := rfl
theorem rf_401_6 (ld : Nat) : rf ld 401 6 = some 405 := rfl
theorem rf_401_7 (ld : Nat) : rf ld 401 7 = some 406 := rfl
theorem rf_401_8 (ld : Nat) : rf ld 401 8 = some 407 := rfl
theorem rf_401_9 (ld : Nat) : rf ld 401 9 = some 408 := rfl
theorem rf_401_21 (ld : Nat) : rf ld 401 21 = some 409 := rfl
theorem rf_401_22 (ld : Nat) : rf ld 401 22 = some 410 := rfl
theorem rf_401_23 (ld : Nat) : rf ld 401 23 = some 411 := rfl
theorem rf_401_24 (ld : Nat) : rf ld 401 24 = some 412 := rfl
theorem rf_401_25 (ld : Nat) : rf ld 401 25 = some 413 := rfl
theorem rf_401_26 (ld : Nat) : rf ld 401 26 = some 414 := rfl
theorem rf_401_27 (ld : Nat) : rf ld 401 27 = some 415 := rfl
theorem rf_401_28 (ld : Nat) : rf ld 401 28 = some 416 := rfl
theorem rf_401_29 (ld : Nat) : rf ld 401 29 = some 417 := rfl
theorem rf_401_30 (ld : Nat) : rf ld 401 30 = some 418 := rfl
theorem rf_401_31 (ld : Nat) : rf ld 401 31 = some 419 := rfl
theorem rf_401_32 (ld : Nat) : rf ld 401 32 = some 420 := rfl
theorem rf_401_33 (ld : Nat) : rf ld 401 33 = some 421 := rfl
theorem rf_401_34 (ld : Nat) : rf ld 401 34 = some 422 := rfl
theorem rf_401_35 (ld : Nat) : rf ld 401 35 = some 423 := rfl
theorem rf_401_36 (ld : Nat) : rf ld 401 36 = some 424 := rfl
theorem rf_401_37 (ld : Nat) : rf ld 401 37 = some 425 := rfl
theorem rf_401_39 (ld : Nat) : rf ld 401 39 = some 426 := rfl
theorem rf_401_40 (ld : Nat) : rf ld 401 40 = some 427 := rfl
theorem rf_401_41 (ld : Nat) : rf ld 401 41 = some 428 := rfl
theorem rf_401_42 (ld : Nat) : rf ld 401 42 = some 429 := rfl
theorem rf_401_43 (ld : Nat) : rf ld 401 43 = some 430 := rfl
theorem rf_401_45 (ld : Nat) : rf ld 401 45 = some 431 := rfl
theorem rf_401_46 (ld : Nat) : rf ld 401 46 = some 432 := rfl
theorem rf_401_47 (ld : Nat) : rf ld 401 47 = some 433 := rfl
theorem rf_401_49 (ld : Nat) : rf ld 401 49 = some 434 := rfl
theorem rf_401_50 (ld : Nat) : rf ld 401 50 = some 435 := rfl
theorem rf_401_52 (ld : Nat) : rf ld 401 52 = some 436 := rfl
theorem rf_401_53 (ld : Nat) : rf ld 401 53 = some 437 := rfl
theorem rf_401_55 (ld : Nat) : rf ld 401 55 = some 438 := rfl
theorem rf_401_56 (ld : Nat) : rf ld 401 56 = some 439 := rfl
theorem rf_401_58 (ld : Nat) : rf ld 401 58 = some 440 := rfl
theorem rf_401_65 (ld : Nat) : rf ld 401 65 = some 441 := rfl
theorem rf_401_66 (ld : Nat) : rf ld 401 66 = some 442 := rfl
theorem rf_401_67 (ld : Nat) : rf ld 401 67 = some 443 := rfl
theorem rf_401_68 (ld : Nat) : rf ld 401 68 = some 444 := rfl
theorem rf_401_69 (ld : Nat) : rf ld 401 69 = some 445 := rfl
theorem rf_401_70 (ld : Nat) : rf ld 401 70 = some 446 := rfl
theorem sh_402 : SH 402 = (2, 2000) := by decide +kernel
theorem sh_403 : SH 403 = (2, 2000) := by decide +kernel
theorem sh_404 : SH 404 = (1, 403) := by decide +kernel
theorem sh_405 : SH 405 = (1, 403) := by decide +kernel
theorem sh_406 : SH 406 = (1, 403) := by decide +kernel
theorem sh_407 : SH 407 = (4, 403) := by decide +kernel
theorem sh_408 : SH 408 = (4, 21) := by decide +kernel
theorem sh_409 : SH 409 = (4, 21) := by decide +kernel
theorem sh_410 : SH 410 = (1, 21) := by decide +kernel
theorem sh_411 : SH 411 = (1, 2) := by decide +kernel
theorem sh_412 : SH 412 = (1, 12) := by decide +kernel
theorem sh_413 : SH 413 = (1, 12) := by decide +kernel
theorem sh_414 : SH 414 = (1, 36) := by decide +kernel
theorem sh_415 : SH 415 = (1, 2) := by decide +kernel
theorem sh_416 : SH 416 = (1, 10) := by decide +kernel
theorem sh_417 : SH 417 = (1, 60) := by decide +kernel
theorem sh_418 : SH 418 = (1, 2) := by decide +kernel
theorem sh_419 : SH 419 = (1, 8) := by decide +kernel
theorem sh_420 : SH 420 = (1, 2) := by decide +kernel
theorem sh_421 : SH 421 = (1, 12) := by decide +kernel
theorem sh_422 : SH 422 = (1, 12) := by decide +kernel
theorem sh_423 : SH 423 = (1, 2) := by decide +kernel
theorem sh_424 : SH 424 = (1, 8) := by decide +kernel
theorem sh_425 : SH 425 = (1, 8) := by decide +kernel
theorem sh_426 : SH 426 = (3, 260) := by decide +kernel
theorem sh_427 : SH 427 = (1, 260) := by decide +kernel
theorem sh_428 : SH 428 = (1, 260) := by decide +kernel
theorem sh_429 : SH 429 = (1, 260) := by decide +kernel
theorem sh_430 : SH 430 = (1, 260) := by decide +kernel
theorem sh_431 : SH 431 = (1, 840) := by decide +kernel
theorem sh_432 : SH 432 = (1, 840) := by decide +kernel
theorem sh_433 : SH 433 = (1, 64) := by decide +kernel
theorem sh_434 : SH 434 = (1, 9) := by decide +kernel
theorem sh_435 : SH 435 = (1, 400) := by decide +kernel
theorem sh_436 : SH 436 = (1, 38) := by decide +kernel
theorem sh_437 : SH 437 = (1, 38) := by decide +kernel
theorem sh_438 : SH 438 = (1, 6) := by decide +kernel
theorem sh_439 : SH 439 = (1, 6) := by decide +kernel
theorem sh_440 : SH 440 = (1, 1520) := by decide +kernel
theorem sh_441 : SH 441 = (1, 20) := by decide +kernel
theorem sh_442 : SH 442 = (1, 20) := by decide +kernel
theorem sh_443 : SH 443 = (1, 20) := by decide +kernel
theorem sh_444 : SH 444 = (1, 3000) := by decide +kernel
theorem sh_445 : SH 445 = (3, 3) := by decide +kernel
theorem sh_446 : SH 446 = (1, 114) := by decide +kernel
theorem rf_0_2 (ld : Nat) : rf ld 0 2 = some ld := rfl
theorem rf_0_3 (ld : Nat) : rf ld 0 3 = some (50 - ld) := rfl
def lSt : List Nat := [64, 71, 80, 87, 94, 101, 108, 115, 122, 129, 136, 143, 150, 157, 164, 171, 178, 185, 192, 199, 206, 213, 220, 227, 234, 241, 248, 255, 262, 269, 276, 283, 290, 297, 304, 311, 318, 325, 332, 339, 346, 353, 362, 369, 376]
def isSt (x : Nat) : Prop := x ∈ lSt
theorem shSt_0 {x : Nat} (h : isSt x) : SH (x) = (0, 6) := (by decide +kernel : ∀ x ∈ lSt, SH (x) = (0, 6)) x h
theorem ltSt_0 {x : Nat} (h : isSt x) : x < 447 := (by decide +kernel : ∀ x ∈ lSt, x < 447) x h
theorem shSt_1 {x : Nat} (h : isSt x) : SH (x + 1) = (1, 3) := (by decide +kernel : ∀ x ∈ lSt, SH (x + 1) = (1, 3)) x h
theorem ltSt_1 {x : Nat} (h : isSt x) : x + 1 < 447 := (by decide +kernel : ∀ x ∈ lSt, x + 1 < 447) x h
theorem shSt_2 {x : Nat} (h : isSt x) : SH (x + 2) = (1, 6) := (by decide +kernel : ∀ x ∈ lSt, SH (x + 2) = (1, 6)) x h
theorem ltSt_2 {x : Nat} (h : isSt x) : x + 2 < 447 := (by decide +kernel : ∀ x ∈ lSt, x + 2 < 447) x h
theorem shSt_3 {x : Nat} (h : isSt x) : SH (x + 3) = (1, 5) := (by decide +kernel : ∀ x ∈ lSt, SH (x + 3) = (1, 5)) x h
theorem ltSt_3 {x : Nat} (h : isSt x) : x + 3 < 447 := (by decide +kernel : ∀ x ∈ lSt, x + 3 < 447) x h
theorem shSt_4 {x : Nat} (h : isSt x) : SH (x + 4) = (1, 4) := (by decide +kernel : ∀ x ∈ lSt, SH (x + 4) = (1, 4)) x h
theorem ltSt_4 {x : Nat} (h : isSt x) : x + 4 < 447 := (by decide +kernel : ∀ x ∈ lSt, x + 4 < 447) x h
theorem shSt_5 {x : Nat} (h : isSt x) : SH (x + 5) = (1, 4) := (by decide +kernel : ∀ x ∈ lSt, SH (x + 5) = (1, 4)) x h
theorem ltSt_5 {x : Nat} (h : isSt x) : x + 5 < 447 := (by decide +kernel : ∀ x ∈ lSt, x + 5 < 447) x h
theorem shSt_6 {x : Nat} (h : isSt x) : SH (x + 6) = (1, 12) := (by decide +kernel : ∀ x ∈ lSt, SH (x + 6) = (1, 12)) x h
theorem ltSt_6 {x : Nat} (h : isSt x) : x + 6 < 447 := (by decide +kernel : ∀ x ∈ lSt, x + 6 < 447) x h
theorem rfSt_4 {x : Nat} (ld : Nat) (h : isSt x) : rf ld x 4 = some (x + 1) := by
  have e : ∀ x ∈ lSt, x ≠ 0 ∧ rfd ((rft.getD x []).getD 4 0) = some (x + 1) := by decide +kernel
  obtain ⟨h1, h2⟩ := e x h
  unfold rf
  rw [if_neg (fun q => h1 q.1), if_neg (fun q => h1 q.1), h2]
theorem rfSt_5 {x : Nat} (ld : Nat) (h : isSt x) : rf ld x 5 = some (x + 2) := by
  have e : ∀ x ∈ lSt, x ≠ 0 ∧ rfd ((rft.getD x []).getD 5 0) = some (x + 2) := by decide +kernel
  obtain ⟨h1, h2⟩ := e x h
  unfold rf
  rw [if_neg (fun q => h1 q.1), if_neg (fun q => h1 q.1), h2]
theorem rfSt_6 {x : Nat} (ld : Nat) (h : isSt x) : rf ld x 6 = some (x + 3) := by
  have e : ∀ x ∈ lSt, x ≠ 0 ∧ rfd ((rft.getD x []).getD 6 0) = some (x + 3) := by decide +kernel
  obtain ⟨h1, h2⟩ := e x h
  unfold rf
  rw [if_neg (fun q => h1 q.1), if_neg (fun q => h1 q.1), h2]
theorem rfSt_7 {x : Nat} (ld : Nat) (h : isSt x) : rf ld x 7 = some (x + 4) := by
  have e : ∀ x ∈ lSt, x ≠ 0 ∧ rfd ((rft.getD x []).getD 7 0) = some (x + 4) := by decide +kernel
  obtain ⟨h1, h2⟩ := e x h
  unfold rf
  rw [if_neg (fun q => h1 q.1), if_neg (fun q => h1 q.1), h2]
theorem rfSt_8 {x : Nat} (ld : Nat) (h : isSt x) : rf ld x 8 = some (x + 5) := by
  have e : ∀ x ∈ lSt, x ≠ 0 ∧ rfd ((rft.getD x []).getD 8 0) = some (x + 5) := by decide +kernel
  obtain ⟨h1, h2⟩ := e x h
  unfold rf
  rw [if_neg (fun q => h1 q.1), if_neg (fun q => h1 q.1), h2]
theorem rfSt_9 {x : Nat} (ld : Nat) (h : isSt x) : rf ld x 9 = some (x + 6) := by
  have e : ∀ x ∈ lSt, x ≠ 0 ∧ rfd ((rft.getD x []).getD 9 0) = some (x + 6) := by decide +kernel
  obtain ⟨h1, h2⟩ := e x h
  unfold rf
  rw [if_neg (fun q => h1 q.1), if_neg (fun q => h1 q.1), h2]
def lLa : List Nat := [12, 38]
def isLa (x : Nat) : Prop := x ∈ lLa
theorem shLa_0 {x : Nat} (h : isLa x) : SH (x) = (0, 4) := (by decide +kernel : ∀ x ∈ lLa, SH (x) = (0, 4)) x h
theorem ltLa_0 {x : Nat} (h : isLa x) : x < 447 := (by decide +kernel : ∀ x ∈ lLa, x < 447) x h
theorem shLa_1 {x : Nat} (h : isLa x) : SH (x + 1) = (1, 6) := (by decide +kernel : ∀ x ∈ lLa, SH (x + 1) = (1, 6)) x h
theorem ltLa_1 {x : Nat} (h : isLa x) : x + 1 < 447 := (by decide +kernel : ∀ x ∈ lLa, x + 1 < 447) x h
theorem shLa_2 {x : Nat} (h : isLa x) : SH (x + 2) = (1, 6) := (by decide +kernel : ∀ x ∈ lLa, SH (x + 2) = (1, 6)) x h
theorem ltLa_2 {x : Nat} (h : isLa x) : x + 2 < 447 := (by decide +kernel : ∀ x ∈ lLa, x + 2 < 447) x h
theorem shLa_3 {x : Nat} (h : isLa x) : SH (x + 3) = (1, 18) := (by decide +kernel : ∀ x ∈ lLa, SH (x + 3) = (1, 18)) x h
theorem ltLa_3 {x : Nat} (h : isLa x) : x + 3 < 447 := (by decide +kernel : ∀ x ∈ lLa, x + 3 < 447) x h
theorem shLa_4 {x : Nat} (h : isLa x) : SH (x + 4) = (1, 5) := (by decide +kernel : ∀ x ∈ lLa, SH (x + 4) = (1, 5)) x h
theorem ltLa_4 {x : Nat} (h : isLa x) : x + 4 < 447 := (by decide +kernel : ∀ x ∈ lLa, x + 4 < 447) x h
theorem shLa_5 {x : Nat} (h : isLa x) : SH (x + 5) = (1, 30) := (by decide +kernel : ∀ x ∈ lLa, SH (x + 5) = (1, 30)) x h
theorem ltLa_5 {x : Nat} (h : isLa x) : x + 5 < 447 := (by decide +kernel : ∀ x ∈ lLa, x + 5 < 447) x h
theorem shLa_6 {x : Nat} (h : isLa x) : SH (x + 6) = (1, 4) := (by decide +kernel : ∀ x ∈ lLa, SH (x + 6) = (1, 4)) x h
theorem ltLa_6 {x : Nat} (h : isLa x) : x + 6 < 447 := (by decide +kernel : ∀ x ∈ lLa, x + 6 < 447) x h
theorem shLa_7 {x : Nat} (h : isLa x) : SH (x + 7) = (1, 6) := (by decide +kernel : ∀ x ∈ lLa, SH (x + 7) = (1, 6)) x h
theorem ltLa_7 {x : Nat} (h : isLa x) : x + 7 < 447 := (by decide +kernel : ∀ x ∈ lLa, x + 7 < 447) x h
theorem shLa_8 {x : Nat} (h : isLa x) : SH (x + 8) = (1, 6) := (by decide +kernel : ∀ x ∈ lLa, SH (x + 8) = (1, 6)) x h
theorem ltLa_8 {x : Nat} (h : isLa x) : x + 8 < 447 := (by decide +kernel : ∀ x ∈ lLa, x + 8 < 447) x h
theorem shLa_9 {x : Nat} (h : isLa x) : SH (x + 9) = (0, 5) := (by decide +kernel : ∀ x ∈ lLa, SH (x + 9) = (0, 5)) x h
theorem ltLa_9 {x : Nat} (h : isLa x) : x + 9 < 447 := (by decide +kernel : ∀ x ∈ lLa, x + 9 < 447) x h
theorem shLa_10 {x : Nat} (h : isLa x) : SH (x + 10) = (1, 400) := (by decide +kernel : ∀ x ∈ lLa, SH (x + 10) = (1, 400)) x h
theorem ltLa_10 {x : Nat} (h : isLa x) : x + 10 < 447 := (by decide +kernel : ∀ x ∈ lLa, x + 10 < 447) x h
theorem shLa_11 {x : Nat} (h : isLa x) : SH (x + 11) = (1, 9) := (by decide +kernel : ∀ x ∈ lLa, SH (x + 11) = (1, 9)) x h
theorem ltLa_11 {x : Nat} (h : isLa x) : x + 11 < 447 := (by decide +kernel : ∀ x ∈ lLa, x + 11 < 447) x h
theorem shLa_12 {x : Nat} (h : isLa x) : SH (x + 12) = (1, 32) := (by decide +kernel : ∀ x ∈ lLa, SH (x + 12) = (1, 32)) x h
theorem ltLa_12 {x : Nat} (h : isLa x) : x + 12 < 447 := (by decide +kernel : ∀ x ∈ lLa, x + 12 < 447) x h
theorem shLa_13 {x : Nat} (h : isLa x) : SH (x + 13) = (0, 5) := (by decide +kernel : ∀ x ∈ lLa, SH (x + 13) = (0, 5)) x h
theorem ltLa_13 {x : Nat} (h : isLa x) : x + 13 < 447 := (by decide +kernel : ∀ x ∈ lLa, x + 13 < 447) x h
theorem shLa_14 {x : Nat} (h : isLa x) : SH (x + 14) = (1, 400) := (by decide +kernel : ∀ x ∈ lLa, SH (x + 14) = (1, 400)) x h
theorem ltLa_14 {x : Nat} (h : isLa x) : x + 14 < 447 := (by decide +kernel : ∀ x ∈ lLa, x + 14 < 447) x h
theorem shLa_15 {x : Nat} (h : isLa x) : SH (x + 15) = (1, 9) := (by decide +kernel : ∀ x ∈ lLa, SH (x + 15) = (1, 9)) x h
theorem ltLa_15 {x : Nat} (h : isLa x) : x + 15 < 447 := (by decide +kernel : ∀ x ∈ lLa, x + 15 < 447) x h
theorem shLa_16 {x : Nat} (h : isLa x) : SH (x + 16) = (1, 32) := (by decide +kernel : ∀ x ∈ lLa, SH (x + 16) = (1, 32)) x h
theorem ltLa_16 {x : Nat} (h : isLa x) : x + 16 < 447 := (by decide +kernel : ∀ x ∈ lLa, x + 16 < 447) x h
theorem shLa_17 {x : Nat} (h : isLa x) : SH (x + 17) = (0, 5) := (by decide +kernel : ∀ x ∈ lLa, SH (x + 17) = (0, 5)) x h
theorem ltLa_17 {x : Nat} (h : isLa x) : x + 17 < 447 := (by decide +kernel : ∀ x ∈ lLa, x + 17 < 447) x h
theorem shLa_18 {x : Nat} (h : isLa x) : SH (x + 18) = (1, 400) := (by decide +kernel : ∀ x ∈ lLa, SH (x + 18) = (1, 400)) x h
theorem ltLa_18 {x : Nat} (h : isLa x) : x + 18 < 447 := (by decide +kernel : ∀ x ∈ lLa, x + 18 < 447) x h
theorem shLa_19 {x : Nat} (h : isLa x) : SH (x + 19) = (1, 9) := (by decide +kernel : ∀ x ∈ lLa, SH (x + 19) = (1, 9)) x h
theorem ltLa_19 {x : Nat} (h : isLa x) : x + 19 < 447 := (by decide +kernel : ∀ x ∈ lLa, x + 19 < 447) x h
theorem shLa_20 {x : Nat} (h : isLa x) : SH (x + 20) = (1, 32) := (by decide +kernel : ∀ x ∈ lLa, SH (x + 20) = (1, 32)) x h
theorem ltLa_20 {x : Nat} (h : isLa x) : x + 20 < 447 := (by decide +kernel : ∀ x ∈ lLa, x + 20 < 447) x h
theorem shLa_21 {x : Nat} (h : isLa x) : SH (x + 21) = (0, 5) := (by decide +kernel : ∀ x ∈ lLa, SH (x + 21) = (0, 5)) x h
theorem ltLa_21 {x : Nat} (h : isLa x) : x + 21 < 447 := (by decide +kernel : ∀ x ∈ lLa, x + 21 < 447) x h
theorem shLa_22 {x : Nat} (h : isLa x) : SH (x + 22) = (1, 400) := (by decide +kernel : ∀ x ∈ lLa, SH (x + 22) = (1, 400)) x h
theorem ltLa_22 {x : Nat} (h : isLa x) : x + 22 < 447 := (by decide +kernel : ∀ x ∈ lLa, x + 22 < 447) x h
theorem shLa_23 {x : Nat} (h : isLa x) : SH (x + 23) = (1, 9) := (by decide +kernel : ∀ x ∈ lLa, SH (x + 23) = (1, 9)) x h
theorem ltLa_23 {x : Nat} (h : isLa x) : x + 23 < 447 := (by decide +kernel : ∀ x ∈ lLa, x + 23 < 447) x h
theorem shLa_24 {x : Nat} (h : isLa x) : SH (x + 24) = (1, 32) := (by decide +kernel : ∀ x ∈ lLa, SH (x + 24) = (1, 32)) x h
theorem ltLa_24 {x : Nat} (h : isLa x) : x + 24 < 447 := (by decide +kernel : ∀ x ∈ lLa, x + 24 < 447) x h
theorem shLa_25 {x : Nat} (h : isLa x) : SH (x + 25) = (1, 3) := (by decide +kernel : ∀ x ∈ lLa, SH (x + 25) = (1, 3)) x h
theorem ltLa_25 {x : Nat} (h : isLa x) : x + 25 < 447 := (by decide +kernel : ∀ x ∈ lLa, x + 25 < 447) x h
theorem rfLa_5 {x : Nat} (ld : Nat) (h : isLa x) : rf ld x 5 = some (x + 1) := by
  have e : ∀ x ∈ lLa, x ≠ 0 ∧ rfd ((rft.getD x []).getD 5 0) = some (x + 1) := by decide +kernel
  obtain ⟨h1, h2⟩ := e x h
  unfold rf
  rw [if_neg (fun q => h1 q.1), if_neg (fun q => h1 q.1), h2]
theorem rfLa_6 {x : Nat} (ld : Nat) (h : isLa x) : rf ld x 6 = some (x + 2) := by
  have e : ∀ x ∈ lLa, x ≠ 0 ∧ rfd ((rft.getD x []).getD 6 0) = some (x + 2) := by decide +kernel
  obtain ⟨h1, h2⟩ := e x h
  unfold rf
  rw [if_neg (fun q => h1 q.1), if_neg (fun q => h1 q.1), h2]
theorem rfLa_7 {x : Nat} (ld : Nat) (h : isLa x) : rf ld x 7 = some (x + 3) := by
  have e : ∀ x ∈ lLa, x ≠ 0 ∧ rfd ((rft.getD x []).getD 7 0) = some (x + 3) := by decide +kernel
  obtain ⟨h1, h2⟩ := e x h
  unfold rf
  rw [if_neg (fun q => h1 q.1), if_neg (fun q => h1 q.1), h2]
theorem rfLa_8 {x : Nat} (ld : Nat) (h : isLa x) : rf ld x 8 = some (x + 4) := by
  have e : ∀ x ∈ lLa, x ≠ 0 ∧ rfd ((rft.getD x []).getD 8 0) = some (x + 4) := by decide +kernel
  obtain ⟨h1, h2⟩ := e x h
  unfold rf
  rw [if_neg (fun q => h1 q.1), if_neg (fun q => h1 q.1), h2]
theorem rfLa_9 {x : Nat} (ld : Nat) (h : isLa x) : rf ld x 9 = some (x + 5) := by
  have e : ∀ x ∈ lLa, x ≠ 0 ∧ rfd ((rft.getD x []).getD 9 0) = some (x + 5) := by decide +kernel
  obtain ⟨h1, h2⟩ := e x h
  unfold rf
  rw [if_neg (fun q => h1 q.1), if_neg (fun q => h1 q.1), h2]
theorem rfLa_10 {x : Nat} (ld : Nat) (h : isLa x) : rf ld x 10 = some (x + 6) := by
  have e : ∀ x ∈ lLa, x ≠ 0 ∧ rfd ((rft.getD x []).getD 10 0) = some (x + 6) := by decide +kernel
  obtain ⟨h1, h2⟩ := e x h
  unfold rf
  rw [if_neg (fun q => h1 q.1), if_neg (fun q => h1 q.1), h2]
theorem rfLa_11 {x : Nat} (ld : Nat) (h : isLa x) : rf ld x 11 = some (x + 7) := by
  have e : ∀ x ∈ lLa, x ≠ 0 ∧ rfd ((rft.getD x []).getD 11 0) = some (x + 7) := by decide +kernel
  obtain ⟨h1, h2⟩ := e x h
  unfold rf
  rw [if_neg (fun q => h1 q.1), if_neg (fun q => h1 q.1), h2]
theorem rfLa_12 {x : Nat} (ld : Nat) (h : isLa x) : rf ld x 12 = some (x + 8) := by
  have e : ∀ x ∈ lLa, x ≠ 0 ∧ rfd ((rft.getD x []).getD 12 0) = some (x + 8) := by decide +kernel
  obtain ⟨h1, h2⟩ := e x h
  unfold rf
  rw [if_neg (fun q => h1 q.1), if_neg (fun q => h1 q.1), h2]
theorem rfLa_13 {x : Nat} (ld : Nat) (h : isLa x) : rf ld x 13 = some (x + 9) := by
  have e : ∀ x ∈ lLa, x ≠ 0 ∧ rfd ((rft.getD x []).getD 13 0) = some (x + 9) := by decide +kernel
  obtain ⟨h1, h2⟩ := e x h
  unfold rf
  rw [if_neg (fun q => h1 q.1), if_neg (fun q => h1 q.1), h2]
theorem rfLa_14 {x : Nat} (ld : Nat) (h : isLa x) : rf ld x 14 = some (x + 13) := by
  have e : ∀ x ∈ lLa, x ≠ 0 ∧ rfd ((rft.getD x []).getD 14 0) = some (x + 13) := by decide +kernel
  obtain ⟨h1, h2⟩ := e x h
  unfold rf
  rw [if_neg (fun q => h1 q.1), if_neg (fun q => h1 q.1), h2]
theorem rfLa_15 {x : Nat} (ld : Nat) (h : isLa x) : rf ld x 15 = some (x + 17) := by
  have e : ∀ x ∈ lLa, x ≠ 0 ∧ rfd ((rft.getD x []).getD 15 0) = some (x + 17) := by decide +kernel
  obtain ⟨h1, h2⟩ := e x h
  unfold rf
  rw [if_neg (fun q => h1 q.1), if_neg (fun q => h1 q.1), h2]
theorem rfLa_16 {x : Nat} (ld : Nat) (h : isLa x) : rf ld x 16 = some (x + 21) := by
  have e : ∀ x ∈ lLa, x ≠ 0 ∧ rfd ((rft.getD x []).getD 16 0) = some (x + 21) := by decide +kernel
  obtain ⟨h1, h2⟩ := e x h
  unfold rf
  rw [if_neg (fun q => h1 q.1), if_neg (fun q => h1 q.1), h2]
theorem rfLa_17 {x : Nat} (ld : Nat) (h : isLa x) : rf ld x 17 = some (x + 25) := by
  have e : ∀ x ∈ lLa, x ≠ 0 ∧ rfd ((rft.getD x []).getD 17 0) = some (x + 25) := by decide +kernel
  obtain ⟨h1, h2⟩ := e x h
  unfold rf
  rw [if_neg (fun q => h1 q.1), if_neg (fun q => h1 q.1), h2]
def lLw : List Nat := [21, 25, 29, 33, 47, 51, 55, 59]
def isLw (x : Nat) : Prop := x ∈ lLw
theorem shLw_0 {x : Nat} (h : isLw x) : SH (x) = (0, 5) := (by decide +kernel : ∀ x ∈ lLw, SH (x) = (0, 5)) x h
theorem ltLw_0 {x : Nat} (h : isLw x) : x < 447 := (by decide +kernel : ∀ x ∈ lLw, x < 447) x h
theorem shLw_1 {x : Nat} (h : isLw x) : SH (x + 1) = (1, 400) := (by decide +kernel : ∀ x ∈ lLw, SH (x + 1) = (1, 400)) x h
theorem ltLw_1 {x : Nat} (h : isLw x) : x + 1 < 447 := (by decide +kernel : ∀ x ∈ lLw, x + 1 < 447) x h
theorem shLw_2 {x : Nat} (h : isLw x) : SH (x + 2) = (1, 9) := (by decide +kernel : ∀ x ∈ lLw, SH (x + 2) = (1, 9)) x h
theorem ltLw_2 {x : Nat} (h : isLw x) : x + 2 < 447 := (by decide +kernel : ∀ x ∈ lLw, x + 2 < 447) x h
theorem shLw_3 {x : Nat} (h : isLw x) : SH (x + 3) = (1, 32) := (by decide +kernel : ∀ x ∈ lLw, SH (x + 3) = (1, 32)) x h
theorem ltLw_3 {x : Nat} (h : isLw x) : x + 3 < 447 := (by decide +kernel : ∀ x ∈ lLw, x + 3 < 447) x h
theorem rfLw_0 {x : Nat} (ld : Nat) (h : isLw x) : rf ld x 0 = some (x + 1) := by
  have e : ∀ x ∈ lLw, x ≠ 0 ∧ rfd ((rft.getD x []).getD 0 0) = some (x + 1) := by decide +kernel
  obtain ⟨h1, h2⟩ := e x h
  unfold rf
  rw [if_neg (fun q => h1 q.1), if_neg (fun q => h1 q.1), h2]
theorem rfLw_2 {x : Nat} (ld : Nat) (h : isLw x) : rf ld x 2 = some (x + 2) := by
  have e : ∀ x ∈ lLw, x ≠ 0 ∧ rfd ((rft.getD x []).getD 2 0) = some (x + 2) := by decide +kernel
  obtain ⟨h1, h2⟩ := e x h
  unfold rf
  rw [if_neg (fun q => h1 q.1), if_neg (fun q => h1 q.1), h2]
theorem rfLw_3 {x : Nat} (ld : Nat) (h : isLw x) : rf ld x 3 = some (x + 3) := by
  have e : ∀ x ∈ lLw, x ≠ 0 ∧ rfd ((rft.getD x []).getD 3 0) = some (x + 3) := by decide +kernel
  obtain ⟨h1, h2⟩ := e x h
  unfold rf
  rw [if_neg (fun q => h1 q.1), if_neg (fun q => h1 q.1), h2]
theorem isSt_64 : isSt 64 := (by decide +kernel : 64 ∈ lSt)
theorem isSt_71 : isSt 71 := (by decide +kernel : 71 ∈ lSt)
theorem isLw_9 {x : Nat} (h : isLa x) : isLw (x + 9) := (by decide +kernel : ∀ x ∈ lLa, x + 9 ∈ lLw) x h
theorem isLw_13 {x : Nat} (h : isLa x) : isLw (x + 13) := (by decide +kernel : ∀ x ∈ lLa, x + 13 ∈ lLw) x h
theorem isLw_17 {x : Nat} (h : isLa x) : isLw (x + 17) := (by decide +kernel : ∀ x ∈ lLa, x + 17 ∈ lLw) x h
theorem isLw_21 {x : Nat} (h : isLa x) : isLw (x + 21) := (by decide +kernel : ∀ x ∈ lLa, x + 21 ∈ lLw) x h
theorem isLa_dr {x : Nat} (h : isLa x) : isLa (50 - x) := (by decide +kernel : ∀ x ∈ lLa, 50 - x ∈ lLa) x h
set_option maxRecDepth 100000 in
theorem fo_Main_12 : fOk "CookedLaw" 12 0 0 1 true := ⟨"CookedLaw", T_Main, 12, rfl, fun w h => gtb_of (in_Main w h).1 (in_Main w h).2, by decide, rfl, rfl, rfl, Or.inl (gk_2 (List.mem_of_getElem? (i := 225) rfl) rfl)⟩
set_option maxRecDepth 100000 in
theorem ff_Main_12 : ∃ (T : u_T) (N : Nat), cls[0]? = some ("CookedLaw", T, N) ∧ (∀ w ∈ u_ws "CookedLaw" T N, w ∈ gtb) ∧ 0 < N ∧ (fks 0)[0]? = some (1, 0) ∧ (T 0).1 = "CookedLaw" ∧ (T 0).2.2.2 = true ∧ Cond.fieldLink "CookedLaw" 12 "CookedLaw" (T 0).2.1 (T 0).2.2.1 ∈ gtb := ⟨T_Main, 12, rfl, fun w h => gtb_of (in_Main w h).1 (in_Main w h).2, by decide, rfl, rfl, rfl, (gk_2 (List.mem_of_getElem? (i := 225) rfl) rfl)⟩
set_option maxRecDepth 100000 in
theorem fo_Main_19 : fOk "CookedLaw" 19 0 1 1 true := ⟨"CookedLaw", T_Main, 12, rfl, fun w h => gtb_of (in_Main w h).1 (in_Main w h).2, by decide, rfl, rfl, rfl, Or.inl (gk_2 (List.mem_of_getElem? (i := 226) rfl) rfl)⟩
set_option maxRecDepth 100000 in
theorem ff_Main_19 : ∃ (T : u_T) (N : Nat), cls[0]? = some ("CookedLaw", T, N) ∧ (∀ w ∈ u_ws "CookedLaw" T N, w ∈ gtb) ∧ 1 < N ∧ (fks 0)[1]? = some (1, 1) ∧ (T 1).1 = "CookedLaw" ∧ (T 1).2.2.2 = true ∧ Cond.fieldLink "CookedLaw" 19 "CookedLaw" (T 1).2.1 (T 1).2.2.1 ∈ gtb := ⟨T_Main, 12, rfl, fun w h => gtb_of (in_Main w h).1 (in_Main w h).2, by decide, rfl, rfl, rfl, (gk_2 (List.mem_of_getElem? (i := 226) rfl) rfl)⟩
set_option maxRecDepth 100000 in
theorem fo_Main_26 : fOk "CookedLaw" 26 0 2 1 false := ⟨"CookedLaw", T_Main, 12, rfl, fun w h => gtb_of (in_Main w h).1 (in_Main w h).2, by decide, rfl, rfl, rfl, Or.inl (gk_2 (List.mem_of_getElem? (i := 227) rfl) rfl)⟩
set_option maxRecDepth 100000 in
theorem fo_Main_30 : fOk "CookedLaw" 30 0 3 1 false := ⟨"CookedLaw", T_Main, 12, rfl, fun w h => gtb_of (in_Main w h).1 (in_Main w h).2, by decide, rfl, rfl, rfl, Or.inl (gk_2 (List.mem_of_getElem? (i := 228) rfl) rfl)⟩
set_option maxRecDepth 100000 in
theorem fo_Main_36 : fOk "CookedLaw" 36 0 4 1 true := ⟨"CookedLaw", T_Main, 12, rfl, fun w h => gtb_of (in_Main w h).1 (in_Main w h).2, by decide, rfl, rfl, rfl, Or.inl (gk_2 (List.mem_of_getElem? (i := 229) rfl) rfl)⟩
set_option maxRecDepth 100000 in
theorem ff_Main_36 : ∃ (T : u_T) (N : Nat), cls[0]? = some ("CookedLaw", T, N) ∧ (∀ w ∈ u_ws "CookedLaw" T N, w ∈ gtb) ∧ 4 < N ∧ (fks 0)[4]? = some (1, 4) ∧ (T 4).1 = "CookedLaw" ∧ (T 4).2.2.2 = true ∧ Cond.fieldLink "CookedLaw" 36 "CookedLaw" (T 4).2.1 (T 4).2.2.1 ∈ gtb := ⟨T_Main, 12, rfl, fun w h => gtb_of (in_Main w h).1 (in_Main w h).2, by decide, rfl, rfl, rfl, (gk_2 (List.mem_of_getElem? (i := 229) rfl) rfl)⟩
set_option maxRecDepth 100000 in
theorem fo_Main_40 : fOk "CookedLaw" 40 0 5 1 true := ⟨"CookedLaw", T_Main, 12, rfl, fun w h => gtb_of (in_Main w h).1 (in_Main w h).2, by decide, rfl, rfl, rfl, Or.inl (gk_2 (List.mem_of_getElem? (i := 230) rfl) rfl)⟩
set_option maxRecDepth 100000 in
theorem ff_Main_40 : ∃ (T : u_T) (N : Nat), cls[0]? = some ("CookedLaw", T, N) ∧ (∀ w ∈ u_ws "CookedLaw" T N, w ∈ gtb) ∧ 5 < N ∧ (fks 0)[5]? = some (1, 5) ∧ (T 5).1 = "CookedLaw" ∧ (T 5).2.2.2 = true ∧ Cond.fieldLink "CookedLaw" 40 "CookedLaw" (T 5).2.1 (T 5).2.2.1 ∈ gtb := ⟨T_Main, 12, rfl, fun w h => gtb_of (in_Main w h).1 (in_Main w h).2, by decide, rfl, rfl, rfl, (gk_2 (List.mem_of_getElem? (i := 230) rfl) rfl)⟩
set_option maxRecDepth 100000 in
theorem fo_Main_46 : fOk "CookedLaw" 46 0 6 1 true := ⟨"CookedLaw", T_Main, 12, rfl, fun w h => gtb_of (in_Main w h).1 (in_Main w h).2, by decide, rfl, rfl, rfl, Or.inl (gk_2 (List.mem_of_getElem? (i := 231) rfl) rfl)⟩
set_option maxRecDepth 100000 in
theorem ff_Main_46 : ∃ (T : u_T) (N : Nat), cls[0]? = some ("CookedLaw", T, N) ∧ (∀ w ∈ u_ws "CookedLaw" T N, w ∈ gtb) ∧ 6 < N ∧ (fks 0)[6]? = some (1, 6) ∧ (T 6).1 = "CookedLaw" ∧ (T 6).2.2.2 = true ∧ Cond.fieldLink "CookedLaw" 46 "CookedLaw" (T 6).2.1 (T 6).2.2.1 ∈ gtb := ⟨T_Main, 12, rfl, fun w h => gtb_of (in_Main w h).1 (in_Main w h).2, by decide, rfl, rfl, rfl, (gk_2 (List.mem_of_getElem? (i := 231) rfl) rfl)⟩
set_option maxRecDepth 100000 in
theorem fo_Main_53 : fOk "CookedLaw" 53 0 7 1 true := ⟨"CookedLaw", T_Main, 12, rfl, fun w h => gtb_of (in_Main w h).1 (in_Main w h).2, by decide, rfl, rfl, rfl, Or.inl (gk_2 (List.mem_of_getElem? (i := 232) rfl) rfl)⟩
set_option maxRecDepth 100000 in
theorem ff_Main_53 : ∃ (T : u_T) (N : Nat), cls[0]? = some ("CookedLaw", T, N) ∧ (∀ w ∈ u_ws "CookedLaw" T N, w ∈ gtb) ∧ 7 < N ∧ (fks 0)[7]? = some (1, 7) ∧ (T 7).1 = "CookedLaw" ∧ (T 7).2.2.2 = true ∧ Cond.fieldLink "CookedLaw" 53 "CookedLaw" (T 7).2.1 (T 7).2.2.1 ∈ gtb := ⟨T_Main, 12, rfl, fun w h => gtb_of (in_Main w h).1 (in_Main w h).2, by decide, rfl, rfl, rfl, (gk_2 (List.mem_of_getElem? (i := 232) rfl) rfl)⟩
set_option maxRecDepth 100000 in
theorem fo_Main_60 : fOk "CookedLaw" 60 0 8 1 true := ⟨"CookedLaw", T_Main, 12, rfl, fun w h => gtb_of (in_Main w h).1 (in_Main w h).2, by decide, rfl, rfl, rfl, Or.inl (gk_2 (List.mem_of_getElem? (i := 233) rfl) rfl)⟩
set_option maxRecDepth 100000 in
theorem ff_Main_60 : ∃ (T : u_T) (N : Nat), cls[0]? = some ("CookedLaw", T, N) ∧ (∀ w ∈ u_ws "CookedLaw" T N, w ∈ gtb) ∧ 8 < N ∧ (fks 0)[8]? = some (1, 8) ∧ (T 8).1 = "CookedLaw" ∧ (T 8).2.2.2 = true ∧ Cond.fieldLink "CookedLaw" 60 "CookedLaw" (T 8).2.1 (T 8).2.2.1 ∈ gtb := ⟨T_Main, 12, rfl, fun w h => gtb_of (in_Main w h).1 (in_Main w h).2, by decide, rfl, rfl, rfl, (gk_2 (List.mem_of_getElem? (i := 233) rfl) rfl)⟩
set_option maxRecDepth 100000 in
theorem fo_Main_67 : fOk "CookedLaw" 67 0 9 1 true := ⟨"CookedLaw", T_Main, 12, rfl, fun w h => gtb_of (in_Main w h).1 (in_Main w h).2, by decide, rfl, rfl, rfl, Or.inl (gk_2 (List.mem_of_getElem? (i := 234) rfl) rfl)⟩
set_option maxRecDepth 100000 in
theorem ff_Main_67 : ∃ (T : u_T) (N : Nat), cls[0]? = some ("CookedLaw", T, N) ∧ (∀ w ∈ u_ws "CookedLaw" T N, w ∈ gtb) ∧ 9 < N ∧ (fks 0)[9]? = some (1, 9) ∧ (T 9).1 = "CookedLaw" ∧ (T 9).2.2.2 = true ∧ Cond.fieldLink "CookedLaw" 67 "CookedLaw" (T 9).2.1 (T 9).2.2.1 ∈ gtb := ⟨T_Main, 12, rfl, fun w h => gtb_of (in_Main w h).1 (in_Main w h).2, by decide, rfl, rfl, rfl, (gk_2 (List.mem_of_getElem? (i := 234) rfl) rfl)⟩
set_option maxRecDepth 100000 in
theorem fo_Main_74 : fOk "CookedLaw" 74 0 10 1 true := ⟨"CookedLaw", T_Main, 12, rfl, fun w h => gtb_of (in_Main w h).1 (in_Main w h).2, by decide, rfl, rfl, rfl, Or.inl (gk_2 (List.mem_of_getElem? (i := 235) rfl) rfl)⟩
set_option maxRecDepth 100000 in
theorem ff_Main_74 : ∃ (T : u_T) (N : Nat), cls[0]? = some ("CookedLaw", T, N) ∧ (∀ w ∈ u_ws "CookedLaw" T N, w ∈ gtb) ∧ 10 < N ∧ (fks 0)[10]? = some (1, 10) ∧ (T 10).1 = "CookedLaw" ∧ (T 10).2.2.2 = true ∧ Cond.fieldLink "CookedLaw" 74 "CookedLaw" (T 10).2.1 (T 10).2.2.1 ∈ gtb := ⟨T_Main, 12, rfl, fun w h => gtb_of (in_Main w h).1 (in_Main w h).2, by decide, rfl, rfl, rfl, (gk_2 (List.mem_of_getElem? (i := 235) rfl) rfl)⟩
set_option maxRecDepth 100000 in
theorem fo_Main_78 : fOk "CookedLaw" 78 0 11 0 false := ⟨"CookedLaw", T_Main, 12, rfl, fun w h => gtb_of (in_Main w h).1 (in_Main w h).2, by decide, rfl, rfl, rfl, Or.inl (gk_2 (List.mem_of_getElem? (i := 236) rfl) rfl)⟩
set_option maxRecDepth 100000 in
theorem fo_Main_82 : fOk "CookedLaw" 82 1 1 0 false := ⟨"CookedLaw$Tape", T_Tape, 2, rfl, fun w h => gtb_of (in_Tape w h).1 (in_Tape w h).2, by decide, rfl, rfl, rfl, Or.inr ⟨"CookedLaw", (tk_1 (List.mem_of_getElem? (i := 35) rfl))⟩⟩
set_option maxRecDepth 100000 in
theorem fo_Main_109 : fOk "CookedLaw" 109 4 0 0 false := ⟨"CookedLaw$Land", T_Land, 18, rfl, fun w h => gtb_of (in_Land w h).1 (in_Land w h).2, by decide, rfl, rfl, rfl, Or.inr ⟨"CookedLaw", (tk_1 (List.mem_of_getElem? (i := 191) rfl))⟩⟩
set_option maxRecDepth 100000 in
theorem fo_Main_116 : fOk "CookedLaw" 116 6 5 1 true := ⟨"CookedLaw$State", T_State, 10, rfl, fun w h => gtb_of (in_State w h).1 (in_State w h).2, by decide, rfl, rfl, rfl, Or.inr ⟨"CookedLaw", (tk_2 (List.mem_of_getElem? (i := 58) rfl))⟩⟩
set_option maxRecDepth 100000 in
theorem fo_Main_124 : fOk "CookedLaw" 124 4 6 1 true := ⟨"CookedLaw$Land", T_Land, 18, rfl, fun w h => gtb_of (in_Land w h).1 (in_Land w h).2, by decide, rfl, rfl, rfl, Or.inr ⟨"CookedLaw", (tk_1 (List.mem_of_getElem? (i := 213) rfl))⟩⟩
set_option maxRecDepth 100000 in
theorem fo_Main_131 : fOk "CookedLaw" 131 4 1 0 false := ⟨"CookedLaw$Land", T_Land, 18, rfl, fun w h => gtb_of (in_Land w h).1 (in_Land w h).2, by decide, rfl, rfl, rfl, Or.inr ⟨"CookedLaw", (tk_1 (List.mem_of_getElem? (i := 196) rfl))⟩⟩
set_option maxRecDepth 100000 in
theorem fo_Main_134 : fOk "CookedLaw" 134 4 8 1 true := ⟨"CookedLaw$Land", T_Land, 18, rfl, fun w h => gtb_of (in_Land w h).1 (in_Land w h).2, by decide, rfl, rfl, rfl, Or.inr ⟨"CookedLaw", (tk_1 (List.mem_of_getElem? (i := 218) rfl))⟩⟩
set_option maxRecDepth 100000 in
theorem fo_Main_144 : fOk "CookedLaw" 144 6 0 0 false := ⟨"CookedLaw$State", T_State, 10, rfl, fun w h => gtb_of (in_State w h).1 (in_State w h).2, by decide, rfl, rfl, rfl, Or.inr ⟨"CookedLaw", (tk_2 (List.mem_of_getElem? (i := 47) rfl))⟩⟩
set_option maxRecDepth 100000 in
theorem fo_Main_151 : fOk "CookedLaw" 151 6 6 1 true := ⟨"CookedLaw$State", T_State, 10, rfl, fun w h => gtb_of (in_State w h).1 (in_State w h).2, by decide, rfl, rfl, rfl, Or.inr ⟨"CookedLaw", (tk_2 (List.mem_of_getElem? (i := 60) rfl))⟩⟩
set_option maxRecDepth 100000 in
theorem fo_Main_157 : fOk "CookedLaw" 157 4 2 0 false := ⟨"CookedLaw$Land", T_Land, 18, rfl, fun w h => gtb_of (in_Land w h).1 (in_Land w h).2, by decide, rfl, rfl, rfl, Or.inr ⟨"CookedLaw", (tk_1 (List.mem_of_getElem? (i := 199) rfl))⟩⟩
set_option maxRecDepth 100000 in
theorem fo_Main_160 : fOk "CookedLaw" 160 4 10 1 true := ⟨"CookedLaw$Land", T_Land, 18, rfl, fun w h => gtb_of (in_Land w h).1 (in_Land w h).2, by decide, rfl, rfl, rfl, Or.inr ⟨"CookedLaw", (tk_1 (List.mem_of_getElem? (i := 223) rfl))⟩⟩
set_option maxRecDepth 100000 in
theorem fo_Main_170 : fOk "CookedLaw" 170 6 7 1 true := ⟨"CookedLaw$State", T_State, 10, rfl, fun w h => gtb_of (in_State w h).1 (in_State w h).2, by decide, rfl, rfl, rfl, Or.inr ⟨"CookedLaw", (tk_2 (List.mem_of_getElem? (i := 62) rfl))⟩⟩
set_option maxRecDepth 100000 in
theorem fo_Main_177 : fOk "CookedLaw" 177 4 3 0 false := ⟨"CookedLaw$Land", T_Land, 18, rfl, fun w h => gtb_of (in_Land w h).1 (in_Land w h).2, by decide, rfl, rfl, rfl, Or.inr ⟨"CookedLaw", (tk_1 (List.mem_of_getElem? (i := 202) rfl))⟩⟩
set_option maxRecDepth 100000 in
theorem fo_Main_180 : fOk "CookedLaw" 180 4 11 1 true := ⟨"CookedLaw$Land", T_Land, 18, rfl, fun w h => gtb_of (in_Land w h).1 (in_Land w h).2, by decide, rfl, rfl, rfl, Or.inr ⟨"CookedLaw", (tk_1 (List.mem_of_getElem? (i := 226) rfl))⟩⟩
set_option maxRecDepth 100000 in
theorem fo_Main_183 : fOk "CookedLaw" 183 4 12 1 true := ⟨"CookedLaw$Land", T_Land, 18, rfl, fun w h => gtb_of (in_Land w h).1 (in_Land w h).2, by decide, rfl, rfl, rfl, Or.inr ⟨"CookedLaw", (tk_1 (List.mem_of_getElem? (i := 229) rfl))⟩⟩
set_option maxRecDepth 100000 in
theorem fo_Main_208 : fOk "CookedLaw" 208 6 3 0 false := ⟨"CookedLaw$State", T_State, 10, rfl, fun w h => gtb_of (in_State w h).1 (in_State w h).2, by decide, rfl, rfl, rfl, Or.inr ⟨"CookedLaw", (tk_2 (List.mem_of_getElem? (i := 53) rfl))⟩⟩
set_option maxRecDepth 100000 in
theorem fo_Main_226 : fOk "CookedLaw" 226 10 6 0 false := ⟨"CookedLaw$PotSearch", T_PotSearch, 11, rfl, fun w h => gtb_of (in_PotSearch w h).1 (in_PotSearch w h).2, by decide, rfl, rfl, rfl, Or.inr ⟨"CookedLaw", (tk_2 (List.mem_of_getElem? (i := 171) rfl))⟩⟩
set_option maxRecDepth 100000 in
theorem fo_Main_229 : fOk "CookedLaw" 229 10 8 0 false := ⟨"CookedLaw$PotSearch", T_PotSearch, 11, rfl, fun w h => gtb_of (in_PotSearch w h).1 (in_PotSearch w h).2, by decide, rfl, rfl, rfl, Or.inr ⟨"CookedLaw", (tk_2 (List.mem_of_getElem? (i := 174) rfl))⟩⟩
set_option maxRecDepth 100000 in
theorem fo_Main_232 : fOk "CookedLaw" 232 10 5 1 true := ⟨"CookedLaw$PotSearch", T_PotSearch, 11, rfl, fun w h => gtb_of (in_PotSearch w h).1 (in_PotSearch w h).2, by decide, rfl, rfl, rfl, Or.inr ⟨"CookedLaw", (tk_2 (List.mem_of_getElem? (i := 169) rfl))⟩⟩
set_option maxRecDepth 100000 in
theorem fo_Main_258 : fOk "CookedLaw" 258 11 4 0 false := ⟨"CookedLaw$MenuSearch", T_MenuSearch, 5, rfl, fun w h => gtb_of (in_MenuSearch w h).1 (in_MenuSearch w h).2, by decide, rfl, rfl, rfl, Or.inr ⟨"CookedLaw", (tk_2 (List.mem_of_getElem? (i := 212) rfl))⟩⟩
set_option maxRecDepth 100000 in
theorem fo_Main_261 : fOk "CookedLaw" 261 11 3 1 true := ⟨"CookedLaw$MenuSearch", T_MenuSearch, 5, rfl, fun w h => gtb_of (in_MenuSearch w h).1 (in_MenuSearch w h).2, by decide, rfl, rfl, rfl, Or.inr ⟨"CookedLaw", (tk_2 (List.mem_of_getElem? (i := 210) rfl))⟩⟩
set_option maxRecDepth 100000 in
theorem fo_Main_265 : fOk "CookedLaw" 265 4 4 0 false := ⟨"CookedLaw$Land", T_Land, 18, rfl, fun w h => gtb_of (in_Land w h).1 (in_Land w h).2, by decide, rfl, rfl, rfl, Or.inr ⟨"CookedLaw", (tk_1 (List.mem_of_getElem? (i := 207) rfl))⟩⟩
set_option maxRecDepth 100000 in
theorem fo_Main_275 : fOk "CookedLaw" 275 9 3 0 false := ⟨"CookedLaw$Told", T_Told, 9, rfl, fun w h => gtb_of (in_Told w h).1 (in_Told w h).2, by decide, rfl, rfl, rfl, Or.inr ⟨"CookedLaw", (tk_2 (List.mem_of_getElem? (i := 131) rfl))⟩⟩
set_option maxRecDepth 100000 in
theorem fo_Main_282 : fOk "CookedLaw" 282 9 7 0 false := ⟨"CookedLaw$Told", T_Told, 9, rfl, fun w h => gtb_of (in_Told w h).1 (in_Told w h).2, by decide, rfl, rfl, rfl, Or.inr ⟨"CookedLaw", (tk_2 (List.mem_of_getElem? (i := 136) rfl))⟩⟩
set_option maxRecDepth 100000 in
theorem fo_Main_297 : fOk "CookedLaw" 297 6 1 0 false := ⟨"CookedLaw$State", T_State, 10, rfl, fun w h => gtb_of (in_State w h).1 (in_State w h).2, by decide, rfl, rfl, rfl, Or.inr ⟨"CookedLaw", (tk_2 (List.mem_of_getElem? (i := 49) rfl))⟩⟩
set_option maxRecDepth 100000 in
theorem fo_Main_300 : fOk "CookedLaw" 300 6 4 1 true := ⟨"CookedLaw$State", T_State, 10, rfl, fun w h => gtb_of (in_State w h).1 (in_State w h).2, by decide, rfl, rfl, rfl, Or.inr ⟨"CookedLaw", (tk_2 (List.mem_of_getElem? (i := 55) rfl))⟩⟩
set_option maxRecDepth 100000 in
theorem fo_Main_303 : fOk "CookedLaw" 303 7 2 0 false := ⟨"CookedLaw$Past", T_Past, 3, rfl, fun w h => gtb_of (in_Past w h).1 (in_Past w h).2, by decide, rfl, rfl, rfl, Or.inr ⟨"CookedLaw", (tk_2 (List.mem_of_getElem? (i := 98) rfl))⟩⟩
set_option maxRecDepth 100000 in
theorem fo_Main_307 : fOk "CookedLaw" 307 6 2 0 false := ⟨"CookedLaw$State", T_State, 10, rfl, fun w h => gtb_of (in_State w h).1 (in_State w h).2, by decide, rfl, rfl, rfl, Or.inr ⟨"CookedLaw", (tk_2 (List.mem_of_getElem? (i := 51) rfl))⟩⟩
set_option maxRecDepth 100000 in
theorem fo_Land_9 : fOk "CookedLaw$Land" 9 4 5 1 true := ⟨"CookedLaw$Land", T_Land, 18, rfl, fun w h => gtb_of (in_Land w h).1 (in_Land w h).2, by decide, rfl, rfl, rfl, Or.inl (gk_1 (List.mem_of_getElem? (i := 208) rfl) rfl)⟩
set_option maxRecDepth 100000 in
theorem ff_Land_9 : ∃ (T : u_T) (N : Nat), cls[4]? = some ("CookedLaw$Land", T, N) ∧ (∀ w ∈ u_ws "CookedLaw$Land" T N, w ∈ gtb) ∧ 5 < N ∧ (fks 4)[5]? = some (1, 5) ∧ (T 5).1 = "CookedLaw$Land" ∧ (T 5).2.2.2 = true ∧ Cond.fieldLink "CookedLaw$Land" 9 "CookedLaw$Land" (T 5).2.1 (T 5).2.2.1 ∈ gtb := ⟨T_Land, 18, rfl, fun w h => gtb_of (in_Land w h).1 (in_Land w h).2, by decide, rfl, rfl, rfl, (gk_1 (List.mem_of_getElem? (i := 208) rfl) rfl)⟩
set_option maxRecDepth 100000 in
theorem fo_Land_15 : fOk "CookedLaw$Land" 15 4 6 1 true := ⟨"CookedLaw$Land", T_Land, 18, rfl, fun w h => gtb_of (in_Land w h).1 (in_Land w h).2, by decide, rfl, rfl, rfl, Or.inl (gk_1 (List.mem_of_getElem? (i := 211) rfl) rfl)⟩
set_option maxRecDepth 100000 in
theorem ff_Land_15 : ∃ (T : u_T) (N : Nat), cls[4]? = some ("CookedLaw$Land", T, N) ∧ (∀ w ∈ u_ws "CookedLaw$Land" T N, w ∈ gtb) ∧ 6 < N ∧ (fks 4)[6]? = some (1, 6) ∧ (T 6).1 = "CookedLaw$Land" ∧ (T 6).2.2.2 = true ∧ Cond.fieldLink "CookedLaw$Land" 15 "CookedLaw$Land" (T 6).2.1 (T 6).2.2.1 ∈ gtb := ⟨T_Land, 18, rfl, fun w h => gtb_of (in_Land w h).1 (in_Land w h).2, by decide, rfl, rfl, rfl, (gk_1 (List.mem_of_getElem? (i := 211) rfl) rfl)⟩
set_option maxRecDepth 100000 in
theorem fo_Land_18 : fOk "CookedLaw$Land" 18 4 7 1 true := ⟨"CookedLaw$Land", T_Land, 18, rfl, fun w h => gtb_of (in_Land w h).1 (in_Land w h).2, by decide, rfl, rfl, rfl, Or.inl (gk_1 (List.mem_of_getElem? (i := 215) rfl) rfl)⟩
set_option maxRecDepth 100000 in
theorem ff_Land_18 : ∃ (T : u_T) (N : Nat), cls[4]? = some ("CookedLaw$Land", T, N) ∧ (∀ w ∈ u_ws "CookedLaw$Land" T N, w ∈ gtb) ∧ 7 < N ∧ (fks 4)[7]? = some (1, 7) ∧ (T 7).1 = "CookedLaw$Land" ∧ (T 7).2.2.2 = true ∧ Cond.fieldLink "CookedLaw$Land" 18 "CookedLaw$Land" (T 7).2.1 (T 7).2.2.1 ∈ gtb := ⟨T_Land, 18, rfl, fun w h => gtb_of (in_Land w h).1 (in_Land w h).2, by decide, rfl, rfl, rfl, (gk_1 (List.mem_of_getElem? (i := 215) rfl) rfl)⟩
set_option maxRecDepth 100000 in
theorem fo_Land_21 : fOk "CookedLaw$Land" 21 4 8 1 true := ⟨"CookedLaw$Land", T_Land, 18, rfl, fun w h => gtb_of (in_Land w h).1 (in_Land w h).2, by decide, rfl, rfl, rfl, Or.inl (gk_1 (List.mem_of_getElem? (i := 217) rfl) rfl)⟩
set_option maxRecDepth 100000 in
theorem ff_Land_21 : ∃ (T : u_T) (N : Nat), cls[4]? = some ("CookedLaw$Land", T, N) ∧ (∀ w ∈ u_ws "CookedLaw$Land" T N, w ∈ gtb) ∧ 8 < N ∧ (fks 4)[8]? = some (1, 8) ∧ (T 8).1 = "CookedLaw$Land" ∧ (T 8).2.2.2 = true ∧ Cond.fieldLink "CookedLaw$Land" 21 "CookedLaw$Land" (T 8).2.1 (T 8).2.2.1 ∈ gtb := ⟨T_Land, 18, rfl, fun w h => gtb_of (in_Land w h).1 (in_Land w h).2, by decide, rfl, rfl, rfl, (gk_1 (List.mem_of_getElem? (i := 217) rfl) rfl)⟩
set_option maxRecDepth 100000 in
theorem fo_Land_24 : fOk "CookedLaw$Land" 24 4 9 1 true := ⟨"CookedLaw$Land", T_Land, 18, rfl, fun w h => gtb_of (in_Land w h).1 (in_Land w h).2, by decide, rfl, rfl, rfl, Or.inl (gk_1 (List.mem_of_getElem? (i := 220) rfl) rfl)⟩
set_option maxRecDepth 100000 in
theorem ff_Land_24 : ∃ (T : u_T) (N : Nat), cls[4]? = some ("CookedLaw$Land", T, N) ∧ (∀ w ∈ u_ws "CookedLaw$Land" T N, w ∈ gtb) ∧ 9 < N ∧ (fks 4)[9]? = some (1, 9) ∧ (T 9).1 = "CookedLaw$Land" ∧ (T 9).2.2.2 = true ∧ Cond.fieldLink "CookedLaw$Land" 24 "CookedLaw$Land" (T 9).2.1 (T 9).2.2.1 ∈ gtb := ⟨T_Land, 18, rfl, fun w h => gtb_of (in_Land w h).1 (in_Land w h).2, by decide, rfl, rfl, rfl, (gk_1 (List.mem_of_getElem? (i := 220) rfl) rfl)⟩
set_option maxRecDepth 100000 in
theorem fo_Land_27 : fOk "CookedLaw$Land" 27 4 10 1 true := ⟨"CookedLaw$Land", T_Land, 18, rfl, fun w h => gtb_of (in_Land w h).1 (in_Land w h).2, by decide, rfl, rfl, rfl, Or.inl (gk_1 (List.mem_of_getElem? (i := 222) rfl) rfl)⟩
set_option maxRecDepth 100000 in
theorem ff_Land_27 : ∃ (T : u_T) (N : Nat), cls[4]? = some ("CookedLaw$Land", T, N) ∧ (∀ w ∈ u_ws "CookedLaw$Land" T N, w ∈ gtb) ∧ 10 < N ∧ (fks 4)[10]? = some (1, 10) ∧ (T 10).1 = "CookedLaw$Land" ∧ (T 10).2.2.2 = true ∧ Cond.fieldLink "CookedLaw$Land" 27 "CookedLaw$Land" (T 10).2.1 (T 10).2.2.1 ∈ gtb := ⟨T_Land, 18, rfl, fun w h => gtb_of (in_Land w h).1 (in_Land w h).2, by decide, rfl, rfl, rfl, (gk_1 (List.mem_of_getElem? (i := 222) rfl) rfl)⟩
set_option maxRecDepth 100000 in
theorem fo_Land_30 : fOk "CookedLaw$Land" 30 4 11 1 true := ⟨"CookedLaw$Land", T_Land, 18, rfl, fun w h => gtb_of (in_Land w h).1 (in_Land w h).2, by decide, rfl, rfl, rfl, Or.inl (gk_1 (List.mem_of_getElem? (i := 225) rfl) rfl)⟩
set_option maxRecDepth 100000 in
theorem ff_Land_30 : ∃ (T : u_T) (N : Nat), cls[4]? = some ("CookedLaw$Land", T, N) ∧ (∀ w ∈ u_ws "CookedLaw$Land" T N, w ∈ gtb) ∧ 11 < N ∧ (fks 4)[11]? = some (1, 11) ∧ (T 11).1 = "CookedLaw$Land" ∧ (T 11).2.2.2 = true ∧ Cond.fieldLink "CookedLaw$Land" 30 "CookedLaw$Land" (T 11).2.1 (T 11).2.2.1 ∈ gtb := ⟨T_Land, 18, rfl, fun w h => gtb_of (in_Land w h).1 (in_Land w h).2, by decide, rfl, rfl, rfl, (gk_1 (List.mem_of_getElem? (i := 225) rfl) rfl)⟩
set_option maxRecDepth 100000 in
theorem fo_Land_33 : fOk "CookedLaw$Land" 33 4 12 1 true := ⟨"CookedLaw$Land", T_Land, 18, rfl, fun w h => gtb_of (in_Land w h).1 (in_Land w h).2, by decide, rfl, rfl, rfl, Or.inl (gk_1 (List.mem_of_getElem? (i := 228) rfl) rfl)⟩
set_option maxRecDepth 100000 in
theorem ff_Land_33 : ∃ (T : u_T) (N : Nat), cls[4]? = some ("CookedLaw$Land", T, N) ∧ (∀ w ∈ u_ws "CookedLaw$Land" T N, w ∈ gtb) ∧ 12 < N ∧ (fks 4)[12]? = some (1, 12) ∧ (T 12).1 = "CookedLaw$Land" ∧ (T 12).2.2.2 = true ∧ Cond.fieldLink "CookedLaw$Land" 33 "CookedLaw$Land" (T 12).2.1 (T 12).2.2.1 ∈ gtb := ⟨T_Land, 18, rfl, fun w h => gtb_of (in_Land w h).1 (in_Land w h).2, by decide, rfl, rfl, rfl, (gk_1 (List.mem_of_getElem? (i := 228) rfl) rfl)⟩
set_option maxRecDepth 100000 in
theorem fo_Land_39 : fOk "CookedLaw$Land" 39 4 13 1 true := ⟨"CookedLaw$Land", T_Land, 18, rfl, fun w h => gtb_of (in_Land w h).1 (in_Land w h).2, by decide, rfl, rfl, rfl, Or.inl (gk_1 (List.mem_of_getElem? (i := 231) rfl) rfl)⟩
set_option maxRecDepth 100000 in
theorem ff_Land_39 : ∃ (T : u_T) (N : Nat), cls[4]? = some ("CookedLaw$Land", T, N) ∧ (∀ w ∈ u_ws "CookedLaw$Land" T N, w ∈ gtb) ∧ 13 < N ∧ (fks 4)[13]? = some (1, 13) ∧ (T 13).1 = "CookedLaw$Land" ∧ (T 13).2.2.2 = true ∧ Cond.fieldLink "CookedLaw$Land" 39 "CookedLaw$Land" (T 13).2.1 (T 13).2.2.1 ∈ gtb := ⟨T_Land, 18, rfl, fun w h => gtb_of (in_Land w h).1 (in_Land w h).2, by decide, rfl, rfl, rfl, (gk_1 (List.mem_of_getElem? (i := 231) rfl) rfl)⟩
set_option maxRecDepth 100000 in
theorem fo_Land_43 : fOk "CookedLaw$Land" 43 4 14 1 true := ⟨"CookedLaw$Land", T_Land, 18, rfl, fun w h => gtb_of (in_Land w h).1 (in_Land w h).2, by decide, rfl, rfl, rfl, Or.inl (gk_1 (List.mem_of_getElem? (i := 234) rfl) rfl)⟩
set_option maxRecDepth 100000 in
theorem ff_Land_43 : ∃ (T : u_T) (N : Nat), cls[4]? = some ("CookedLaw$Land", T, N) ∧ (∀ w ∈ u_ws "CookedLaw$Land" T N, w ∈ gtb) ∧ 14 < N ∧ (fks 4)[14]? = some (1, 14) ∧ (T 14).1 = "CookedLaw$Land" ∧ (T 14).2.2.2 = true ∧ Cond.fieldLink "CookedLaw$Land" 43 "CookedLaw$Land" (T 14).2.1 (T 14).2.2.1 ∈ gtb := ⟨T_Land, 18, rfl, fun w h => gtb_of (in_Land w h).1 (in_Land w h).2, by decide, rfl, rfl, rfl, (gk_1 (List.mem_of_getElem? (i := 234) rfl) rfl)⟩
set_option maxRecDepth 100000 in
theorem fo_Land_46 : fOk "CookedLaw$Land" 46 4 15 1 true := ⟨"CookedLaw$Land", T_Land, 18, rfl, fun w h => gtb_of (in_Land w h).1 (in_Land w h).2, by decide, rfl, rfl, rfl, Or.inl (gk_1 (List.mem_of_getElem? (i := 236) rfl) rfl)⟩
set_option maxRecDepth 100000 in
theorem ff_Land_46 : ∃ (T : u_T) (N : Nat), cls[4]? = some ("CookedLaw$Land", T, N) ∧ (∀ w ∈ u_ws "CookedLaw$Land" T N, w ∈ gtb) ∧ 15 < N ∧ (fks 4)[15]? = some (1, 15) ∧ (T 15).1 = "CookedLaw$Land" ∧ (T 15).2.2.2 = true ∧ Cond.fieldLink "CookedLaw$Land" 46 "CookedLaw$Land" (T 15).2.1 (T 15).2.2.1 ∈ gtb := ⟨T_Land, 18, rfl, fun w h => gtb_of (in_Land w h).1 (in_Land w h).2, by decide, rfl, rfl, rfl, (gk_1 (List.mem_of_getElem? (i := 236) rfl) rfl)⟩
set_option maxRecDepth 100000 in
theorem fo_Land_49 : fOk "CookedLaw$Land" 49 4 16 1 true := ⟨"CookedLaw$Land", T_Land, 18, rfl, fun w h => gtb_of (in_Land w h).1 (in_Land w h).2, by decide, rfl, rfl, rfl, Or.inl (gk_1 (List.mem_of_getElem? (i := 238) rfl) rfl)⟩
set_option maxRecDepth 100000 in
theorem ff_Land_49 : ∃ (T : u_T) (N : Nat), cls[4]? = some ("CookedLaw$Land", T, N) ∧ (∀ w ∈ u_ws "CookedLaw$Land" T N, w ∈ gtb) ∧ 16 < N ∧ (fks 4)[16]? = some (1, 16) ∧ (T 16).1 = "CookedLaw$Land" ∧ (T 16).2.2.2 = true ∧ Cond.fieldLink "CookedLaw$Land" 49 "CookedLaw$Land" (T 16).2.1 (T 16).2.2.1 ∈ gtb := ⟨T_Land, 18, rfl, fun w h => gtb_of (in_Land w h).1 (in_Land w h).2, by decide, rfl, rfl, rfl, (gk_1 (List.mem_of_getElem? (i := 238) rfl) rfl)⟩
set_option maxRecDepth 100000 in
theorem fo_Land_52 : fOk "CookedLaw$Land" 52 4 17 1 true := ⟨"CookedLaw$Land", T_Land, 18, rfl, fun w h => gtb_of (in_Land w h).1 (in_Land w h).2, by decide, rfl, rfl, rfl, Or.inl (gk_2 (List.mem_of_getElem? (i := 0) rfl) rfl)⟩
set_option maxRecDepth 100000 in
theorem ff_Land_52 : ∃ (T : u_T) (N : Nat), cls[4]? = some ("CookedLaw$Land", T, N) ∧ (∀ w ∈ u_ws "CookedLaw$Land" T N, w ∈ gtb) ∧ 17 < N ∧ (fks 4)[17]? = some (1, 17) ∧ (T 17).1 = "CookedLaw$Land" ∧ (T 17).2.2.2 = true ∧ Cond.fieldLink "CookedLaw$Land" 52 "CookedLaw$Land" (T 17).2.1 (T 17).2.2.1 ∈ gtb := ⟨T_Land, 18, rfl, fun w h => gtb_of (in_Land w h).1 (in_Land w h).2, by decide, rfl, rfl, rfl, (gk_2 (List.mem_of_getElem? (i := 0) rfl) rfl)⟩
set_option maxRecDepth 100000 in
theorem fo_Land_55 : fOk "CookedLaw$Land" 55 4 0 0 false := ⟨"CookedLaw$Land", T_Land, 18, rfl, fun w h => gtb_of (in_Land w h).1 (in_Land w h).2, by decide, rfl, rfl, rfl, Or.inl (gk_1 (List.mem_of_getElem? (i := 188) rfl) rfl)⟩
set_option maxRecDepth 100000 in
theorem fo_Land_59 : fOk "CookedLaw$Land" 59 4 1 0 false := ⟨"CookedLaw$Land", T_Land, 18, rfl, fun w h => gtb_of (in_Land w h).1 (in_Land w h).2, by decide, rfl, rfl, rfl, Or.inl (gk_1 (List.mem_of_getElem? (i := 193) rfl) rfl)⟩
set_option maxRecDepth 100000 in
theorem fo_Land_62 : fOk "CookedLaw$Land" 62 4 2 0 false := ⟨"CookedLaw$Land", T_Land, 18, rfl, fun w h => gtb_of (in_Land w h).1 (in_Land w h).2, by decide, rfl, rfl, rfl, Or.inl (gk_1 (List.mem_of_getElem? (i := 198) rfl) rfl)⟩
set_option maxRecDepth 100000 in
theorem fo_Land_65 : fOk "CookedLaw$Land" 65 4 3 0 false := ⟨"CookedLaw$Land", T_Land, 18, rfl, fun w h => gtb_of (in_Land w h).1 (in_Land w h).2, by decide, rfl, rfl, rfl, Or.inl (gk_1 (List.mem_of_getElem? (i := 201) rfl) rfl)⟩
set_option maxRecDepth 100000 in
theorem fo_Land_68 : fOk "CookedLaw$Land" 68 4 4 0 false := ⟨"CookedLaw$Land", T_Land, 18, rfl, fun w h => gtb_of (in_Land w h).1 (in_Land w h).2, by decide, rfl, rfl, rfl, Or.inl (gk_1 (List.mem_of_getElem? (i := 204) rfl) rfl)⟩
set_option maxRecDepth 100000 in
theorem fo_Law_11 : fOk "CookedLaw$Law" 11 5 0 1 true := ⟨"CookedLaw$Law", T_Law, 4, rfl, fun w h => gtb_of (in_Law w h).1 (in_Law w h).2, by decide, rfl, rfl, rfl, Or.inl (gk_1 (List.mem_of_getElem? (i := 175) rfl) rfl)⟩
set_option maxRecDepth 100000 in
theorem ff_Law_11 : ∃ (T : u_T) (N : Nat), cls[5]? = some ("CookedLaw$Law", T, N) ∧ (∀ w ∈ u_ws "CookedLaw$Law" T N, w ∈ gtb) ∧ 0 < N ∧ (fks 5)[0]? = some (1, 0) ∧ (T 0).1 = "CookedLaw$Law" ∧ (T 0).2.2.2 = true ∧ Cond.fieldLink "CookedLaw$Law" 11 "CookedLaw$Law" (T 0).2.1 (T 0).2.2.1 ∈ gtb := ⟨T_Law, 4, rfl, fun w h => gtb_of (in_Law w h).1 (in_Law w h).2, by decide, rfl, rfl, rfl, (gk_1 (List.mem_of_getElem? (i := 175) rfl) rfl)⟩
set_option maxRecDepth 100000 in
theorem fo_Law_15 : fOk "CookedLaw$Law" 15 5 2 1 true := ⟨"CookedLaw$Law", T_Law, 4, rfl, fun w h => gtb_of (in_Law w h).1 (in_Law w h).2, by decide, rfl, rfl, rfl, Or.inl (gk_1 (List.mem_of_getElem? (i := 177) rfl) rfl)⟩
set_option maxRecDepth 100000 in
theorem ff_Law_15 : ∃ (T : u_T) (N : Nat), cls[5]? = some ("CookedLaw$Law", T, N) ∧ (∀ w ∈ u_ws "CookedLaw$Law" T N, w ∈ gtb) ∧ 2 < N ∧ (fks 5)[2]? = some (1, 2) ∧ (T 2).1 = "CookedLaw$Law" ∧ (T 2).2.2.2 = true ∧ Cond.fieldLink "CookedLaw$Law" 15 "CookedLaw$Law" (T 2).2.1 (T 2).2.2.1 ∈ gtb := ⟨T_Law, 4, rfl, fun w h => gtb_of (in_Law w h).1 (in_Law w h).2, by decide, rfl, rfl, rfl, (gk_1 (List.mem_of_getElem? (i := 177) rfl) rfl)⟩
set_option maxRecDepth 100000 in
theorem fo_Law_18 : fOk "CookedLaw$Law" 18 5 3 1 true := ⟨"CookedLaw$Law", T_Law, 4, rfl, fun w h => gtb_of (in_Law w h).1 (in_Law w h).2, by decide, rfl, rfl, rfl, Or.inl (gk_1 (List.mem_of_getElem? (i := 178) rfl) rfl)⟩
set_option maxRecDepth 100000 in
theorem ff_Law_18 : ∃ (T : u_T) (N : Nat), cls[5]? = some ("CookedLaw$Law", T, N) ∧ (∀ w ∈ u_ws "CookedLaw$Law" T N, w ∈ gtb) ∧ 3 < N ∧ (fks 5)[3]? = some (1, 3) ∧ (T 3).1 = "CookedLaw$Law" ∧ (T 3).2.2.2 = true ∧ Cond.fieldLink "CookedLaw$Law" 18 "CookedLaw$Law" (T 3).2.1 (T 3).2.2.1 ∈ gtb := ⟨T_Law, 4, rfl, fun w h => gtb_of (in_Law w h).1 (in_Law w h).2, by decide, rfl, rfl, rfl, (gk_1 (List.mem_of_getElem? (i := 178) rfl) rfl)⟩
set_option maxRecDepth 100000 in
theorem fo_Law_21 : fOk "CookedLaw$Law" 21 5 1 0 false := ⟨"CookedLaw$Law", T_Law, 4, rfl, fun w h => gtb_of (in_Law w h).1 (in_Law w h).2, by decide, rfl, rfl, rfl, Or.inl (gk_1 (List.mem_of_getElem? (i := 176) rfl) rfl)⟩
set_option maxRecDepth 100000 in
theorem fo_MenuSearch_9 : fOk "CookedLaw$MenuSearch" 9 11 0 1 true := ⟨"CookedLaw$MenuSearch", T_MenuSearch, 5, rfl, fun w h => gtb_of (in_MenuSearch w h).1 (in_MenuSearch w h).2, by decide, rfl, rfl, rfl, Or.inl (gk_2 (List.mem_of_getElem? (i := 206) rfl) rfl)⟩
set_option maxRecDepth 100000 in
theorem ff_MenuSearch_9 : ∃ (T : u_T) (N : Nat), cls[11]? = some ("CookedLaw$MenuSearch", T, N) ∧ (∀ w ∈ u_ws "CookedLaw$MenuSearch" T N, w ∈ gtb) ∧ 0 < N ∧ (fks 11)[0]? = some (1, 0) ∧ (T 0).1 = "CookedLaw$MenuSearch" ∧ (T 0).2.2.2 = true ∧ Cond.fieldLink "CookedLaw$MenuSearch" 9 "CookedLaw$MenuSearch" (T 0).2.1 (T 0).2.2.1 ∈ gtb := ⟨T_MenuSearch, 5, rfl, fun w h => gtb_of (in_MenuSearch w h).1 (in_MenuSearch w h).2, by decide, rfl, rfl, rfl, (gk_2 (List.mem_of_getElem? (i := 206) rfl) rfl)⟩
set_option maxRecDepth 100000 in
theorem fo_MenuSearch_15 : fOk "CookedLaw$MenuSearch" 15 11 1 1 true := ⟨"CookedLaw$MenuSearch", T_MenuSearch, 5, rfl, fun w h => gtb_of (in_MenuSearch w h).1 (in_MenuSearch w h).2, by decide, rfl, rfl, rfl, Or.inl (gk_2 (List.mem_of_getElem? (i := 207) rfl) rfl)⟩
set_option maxRecDepth 100000 in
theorem ff_MenuSearch_15 : ∃ (T : u_T) (N : Nat), cls[11]? = some ("CookedLaw$MenuSearch", T, N) ∧ (∀ w ∈ u_ws "CookedLaw$MenuSearch" T N, w ∈ gtb) ∧ 1 < N ∧ (fks 11)[1]? = some (1, 1) ∧ (T 1).1 = "CookedLaw$MenuSearch" ∧ (T 1).2.2.2 = true ∧ Cond.fieldLink "CookedLaw$MenuSearch" 15 "CookedLaw$MenuSearch" (T 1).2.1 (T 1).2.2.1 ∈ gtb := ⟨T_MenuSearch, 5, rfl, fun w h => gtb_of (in_MenuSearch w h).1 (in_MenuSearch w h).2, by decide, rfl, rfl, rfl, (gk_2 (List.mem_of_getElem? (i := 207) rfl) rfl)⟩
set_option maxRecDepth 100000 in
theorem fo_MenuSearch_18 : fOk "CookedLaw$MenuSearch" 18 11 2 1 true := ⟨"CookedLaw$MenuSearch", T_MenuSearch, 5, rfl, fun w h => gtb_of (in_MenuSearch w h).1 (in_MenuSearch w h).2, by decide, rfl, rfl, rfl, Or.inl (gk_2 (List.mem_of_getElem? (i := 208) rfl) rfl)⟩
set_option maxRecDepth 100000 in
theorem ff_MenuSearch_18 : ∃ (T : u_T) (N : Nat), cls[11]? = some ("CookedLaw$MenuSearch", T, N) ∧ (∀ w ∈ u_ws "CookedLaw$MenuSearch" T N, w ∈ gtb) ∧ 2 < N ∧ (fks 11)[2]? = some (1, 2) ∧ (T 2).1 = "CookedLaw$MenuSearch" ∧ (T 2).2.2.2 = true ∧ Cond.fieldLink "CookedLaw$MenuSearch" 18 "CookedLaw$MenuSearch" (T 2).2.1 (T 2).2.2.1 ∈ gtb := ⟨T_MenuSearch, 5, rfl, fun w h => gtb_of (in_MenuSearch w h).1 (in_MenuSearch w h).2, by decide, rfl, rfl, rfl, (gk_2 (List.mem_of_getElem? (i := 208) rfl) rfl)⟩
set_option maxRecDepth 100000 in
theorem fo_MenuSearch_22 : fOk "CookedLaw$MenuSearch" 22 11 3 1 true := ⟨"CookedLaw$MenuSearch", T_MenuSearch, 5, rfl, fun w h => gtb_of (in_MenuSearch w h).1 (in_MenuSearch w h).2, by decide, rfl, rfl, rfl, Or.inl (gk_2 (List.mem_of_getElem? (i := 209) rfl) rfl)⟩
set_option maxRecDepth 100000 in
theorem ff_MenuSearch_22 : ∃ (T : u_T) (N : Nat), cls[11]? = some ("CookedLaw$MenuSearch", T, N) ∧ (∀ w ∈ u_ws "CookedLaw$MenuSearch" T N, w ∈ gtb) ∧ 3 < N ∧ (fks 11)[3]? = some (1, 3) ∧ (T 3).1 = "CookedLaw$MenuSearch" ∧ (T 3).2.2.2 = true ∧ Cond.fieldLink "CookedLaw$MenuSearch" 22 "CookedLaw$MenuSearch" (T 3).2.1 (T 3).2.2.1 ∈ gtb := ⟨T_MenuSearch, 5, rfl, fun w h => gtb_of (in_MenuSearch w h).1 (in_MenuSearch w h).2, by decide, rfl, rfl, rfl, (gk_2 (List.mem_of_getElem? (i := 209) rfl) rfl)⟩
set_option maxRecDepth 100000 in
theorem fo_MenuSearch_29 : fOk "CookedLaw$MenuSearch" 29 6 0 0 false := ⟨"CookedLaw$State", T_State, 10, rfl, fun w h => gtb_of (in_State w h).1 (in_State w h).2, by decide, rfl, rfl, rfl, Or.inr ⟨"CookedLaw", (tk_2 (List.mem_of_getElem? (i := 45) rfl))⟩⟩
set_option maxRecDepth 100000 in
theorem fo_MenuSearch_43 : fOk "CookedLaw$MenuSearch" 43 11 4 0 false := ⟨"CookedLaw$MenuSearch", T_MenuSearch, 5, rfl, fun w h => gtb_of (in_MenuSearch w h).1 (in_MenuSearch w h).2, by decide, rfl, rfl, rfl, Or.inl (gk_2 (List.mem_of_getElem? (i := 211) rfl) rfl)⟩
set_option maxRecDepth 100000 in
theorem fo_MenuSearch_54 : fOk "CookedLaw$MenuSearch" 54 4 1 0 false := ⟨"CookedLaw$Land", T_Land, 18, rfl, fun w h => gtb_of (in_Land w h).1 (in_Land w h).2, by decide, rfl, rfl, rfl, Or.inr ⟨"CookedLaw", (tk_1 (List.mem_of_getElem? (i := 194) rfl))⟩⟩
set_option maxRecDepth 100000 in
theorem fo_Past_11 : fOk "CookedLaw$Past" 11 7 0 1 true := ⟨"CookedLaw$Past", T_Past, 3, rfl, fun w h => gtb_of (in_Past w h).1 (in_Past w h).2, by decide, rfl, rfl, rfl, Or.inl (gk_2 (List.mem_of_getElem? (i := 95) rfl) rfl)⟩
set_option maxRecDepth 100000 in
theorem ff_Past_11 : ∃ (T : u_T) (N : Nat), cls[7]? = some ("CookedLaw$Past", T, N) ∧ (∀ w ∈ u_ws "CookedLaw$Past" T N, w ∈ gtb) ∧ 0 < N ∧ (fks 7)[0]? = some (1, 0) ∧ (T 0).1 = "CookedLaw$Past" ∧ (T 0).2.2.2 = true ∧ Cond.fieldLink "CookedLaw$Past" 11 "CookedLaw$Past" (T 0).2.1 (T 0).2.2.1 ∈ gtb := ⟨T_Past, 3, rfl, fun w h => gtb_of (in_Past w h).1 (in_Past w h).2, by decide, rfl, rfl, rfl, (gk_2 (List.mem_of_getElem? (i := 95) rfl) rfl)⟩
set_option maxRecDepth 100000 in
theorem fo_Past_18 : fOk "CookedLaw$Past" 18 7 1 0 false := ⟨"CookedLaw$Past", T_Past, 3, rfl, fun w h => gtb_of (in_Past w h).1 (in_Past w h).2, by decide, rfl, rfl, rfl, Or.inl (gk_2 (List.mem_of_getElem? (i := 96) rfl) rfl)⟩
set_option maxRecDepth 100000 in
theorem fo_Past_22 : fOk "CookedLaw$Past" 22 7 2 0 false := ⟨"CookedLaw$Past", T_Past, 3, rfl, fun w h => gtb_of (in_Past w h).1 (in_Past w h).2, by decide, rfl, rfl, rfl, Or.inl (gk_2 (List.mem_of_getElem? (i := 97) rfl) rfl)⟩
set_option maxRecDepth 100000 in
theorem fo_PotSearch_9 : fOk "CookedLaw$PotSearch" 9 10 0 1 true := ⟨"CookedLaw$PotSearch", T_PotSearch, 11, rfl, fun w h => gtb_of (in_PotSearch w h).1 (in_PotSearch w h).2, by decide, rfl, rfl, rfl, Or.inl (gk_2 (List.mem_of_getElem? (i := 163) rfl) rfl)⟩
set_option maxRecDepth 100000 in
theorem ff_PotSearch_9 : ∃ (T : u_T) (N : Nat), cls[10]? = some ("CookedLaw$PotSearch", T, N) ∧ (∀ w ∈ u_ws "CookedLaw$PotSearch" T N, w ∈ gtb) ∧ 0 < N ∧ (fks 10)[0]? = some (1, 0) ∧ (T 0).1 = "CookedLaw$PotSearch" ∧ (T 0).2.2.2 = true ∧ Cond.fieldLink "CookedLaw$PotSearch" 9 "CookedLaw$PotSearch" (T 0).2.1 (T 0).2.2.1 ∈ gtb := ⟨T_PotSearch, 11, rfl, fun w h => gtb_of (in_PotSearch w h).1 (in_PotSearch w h).2, by decide, rfl, rfl, rfl, (gk_2 (List.mem_of_getElem? (i := 163) rfl) rfl)⟩
set_option maxRecDepth 100000 in
theorem fo_PotSearch_15 : fOk "CookedLaw$PotSearch" 15 10 1 1 true := ⟨"CookedLaw$PotSearch", T_PotSearch, 11, rfl, fun w h => gtb_of (in_PotSearch w h).1 (in_PotSearch w h).2, by decide, rfl, rfl, rfl, Or.inl (gk_2 (List.mem_of_getElem? (i := 164) rfl) rfl)⟩
set_option maxRecDepth 100000 in
theorem ff_PotSearch_15 : ∃ (T : u_T) (N : Nat), cls[10]? = some ("CookedLaw$PotSearch", T, N) ∧ (∀ w ∈ u_ws "CookedLaw$PotSearch" T N, w ∈ gtb) ∧ 1 < N ∧ (fks 10)[1]? = some (1, 1) ∧ (T 1).1 = "CookedLaw$PotSearch" ∧ (T 1).2.2.2 = true ∧ Cond.fieldLink "CookedLaw$PotSearch" 15 "CookedLaw$PotSearch" (T 1).2.1 (T 1).2.2.1 ∈ gtb := ⟨T_PotSearch, 11, rfl, fun w h => gtb_of (in_PotSearch w h).1 (in_PotSearch w h).2, by decide, rfl, rfl, rfl, (gk_2 (List.mem_of_getElem? (i := 164) rfl) rfl)⟩
set_option maxRecDepth 100000 in
theorem fo_PotSearch_18 : fOk "CookedLaw$PotSearch" 18 10 2 1 true := ⟨"CookedLaw$PotSearch", T_PotSearch, 11, rfl, fun w h => gtb_of (in_PotSearch w h).1 (in_PotSearch w h).2, by decide, rfl, rfl, rfl, Or.inl (gk_2 (List.mem_of_getElem? (i := 165) rfl) rfl)⟩
set_option maxRecDepth 100000 in
theorem ff_PotSearch_18 : ∃ (T : u_T) (N : Nat), cls[10]? = some ("CookedLaw$PotSearch", T, N) ∧ (∀ w ∈ u_ws "CookedLaw$PotSearch" T N, w ∈ gtb) ∧ 2 < N ∧ (fks 10)[2]? = some (1, 2) ∧ (T 2).1 = "CookedLaw$PotSearch" ∧ (T 2).2.2.2 = true ∧ Cond.fieldLink "CookedLaw$PotSearch" 18 "CookedLaw$PotSearch" (T 2).2.1 (T 2).2.2.1 ∈ gtb := ⟨T_PotSearch, 11, rfl, fun w h => gtb_of (in_PotSearch w h).1 (in_PotSearch w h).2, by decide, rfl, rfl, rfl, (gk_2 (List.mem_of_getElem? (i := 165) rfl) rfl)⟩
set_option maxRecDepth 100000 in
theorem fo_PotSearch_21 : fOk "CookedLaw$PotSearch" 21 10 5 1 true := ⟨"CookedLaw$PotSearch", T_PotSearch, 11, rfl, fun w h => gtb_of (in_PotSearch w h).1 (in_PotSearch w h).2, by decide, rfl, rfl, rfl, Or.inl (gk_2 (List.mem_of_getElem? (i := 168) rfl) rfl)⟩
set_option maxRecDepth 100000 in
theorem ff_PotSearch_21 : ∃ (T : u_T) (N : Nat), cls[10]? = some ("CookedLaw$PotSearch", T, N) ∧ (∀ w ∈ u_ws "CookedLaw$PotSearch" T N, w ∈ gtb) ∧ 5 < N ∧ (fks 10)[5]? = some (1, 5) ∧ (T 5).1 = "CookedLaw$PotSearch" ∧ (T 5).2.2.2 = true ∧ Cond.fieldLink "CookedLaw$PotSearch" 21 "CookedLaw$PotSearch" (T 5).2.1 (T 5).2.2.1 ∈ gtb := ⟨T_PotSearch, 11, rfl, fun w h => gtb_of (in_PotSearch w h).1 (in_PotSearch w h).2, by decide, rfl, rfl, rfl, (gk_2 (List.mem_of_getElem? (i := 168) rfl) rfl)⟩
set_option maxRecDepth 100000 in
theorem fo_PotSearch_28 : fOk "CookedLaw$PotSearch" 28 10 9 2 false := ⟨"CookedLaw$PotSearch", T_PotSearch, 11, rfl, fun w h => gtb_of (in_PotSearch w h).1 (in_PotSearch w h).2, by decide, rfl, rfl, rfl, Or.inl (gk_2 (List.mem_of_getElem? (i := 175) rfl) rfl)⟩
set_option maxRecDepth 100000 in
theorem fo_PotSearch_32 : fOk "CookedLaw$PotSearch" 32 4 13 1 true := ⟨"CookedLaw$Land", T_Land, 18, rfl, fun w h => gtb_of (in_Land w h).1 (in_Land w h).2, by decide, rfl, rfl, rfl, Or.inr ⟨"CookedLaw", (tk_1 (List.mem_of_getElem? (i := 232) rfl))⟩⟩
set_option maxRecDepth 100000 in
theorem fo_PotSearch_44 : fOk "CookedLaw$PotSearch" 44 10 10 0 false := ⟨"CookedLaw$PotSearch", T_PotSearch, 11, rfl, fun w h => gtb_of (in_PotSearch w h).1 (in_PotSearch w h).2, by decide, rfl, rfl, rfl, Or.inl (gk_2 (List.mem_of_getElem? (i := 176) rfl) rfl)⟩
set_option maxRecDepth 100000 in
theorem fo_PotSearch_56 : fOk "CookedLaw$PotSearch" 56 10 3 0 false := ⟨"CookedLaw$PotSearch", T_PotSearch, 11, rfl, fun w h => gtb_of (in_PotSearch w h).1 (in_PotSearch w h).2, by decide, rfl, rfl, rfl, Or.inl (gk_2 (List.mem_of_getElem? (i := 166) rfl) rfl)⟩
set_option maxRecDepth 100000 in
theorem fo_PotSearch_59 : fOk "CookedLaw$PotSearch" 59 6 0 0 false := ⟨"CookedLaw$State", T_State, 10, rfl, fun w h => gtb_of (in_State w h).1 (in_State w h).2, by decide, rfl, rfl, rfl, Or.inr ⟨"CookedLaw", (tk_2 (List.mem_of_getElem? (i := 46) rfl))⟩⟩
set_option maxRecDepth 100000 in
theorem fo_PotSearch_72 : fOk "CookedLaw$PotSearch" 72 6 5 1 true := ⟨"CookedLaw$State", T_State, 10, rfl, fun w h => gtb_of (in_State w h).1 (in_State w h).2, by decide, rfl, rfl, rfl, Or.inr ⟨"CookedLaw", (tk_2 (List.mem_of_getElem? (i := 57) rfl))⟩⟩
set_option maxRecDepth 100000 in
theorem fo_PotSearch_89 : fOk "CookedLaw$PotSearch" 89 10 4 0 false := ⟨"CookedLaw$PotSearch", T_PotSearch, 11, rfl, fun w h => gtb_of (in_PotSearch w h).1 (in_PotSearch w h).2, by decide, rfl, rfl, rfl, Or.inl (gk_2 (List.mem_of_getElem? (i := 167) rfl) rfl)⟩
set_option maxRecDepth 100000 in
theorem fo_PotSearch_92 : fOk "CookedLaw$PotSearch" 92 4 6 1 true := ⟨"CookedLaw$Land", T_Land, 18, rfl, fun w h => gtb_of (in_Land w h).1 (in_Land w h).2, by decide, rfl, rfl, rfl, Or.inr ⟨"CookedLaw", (tk_1 (List.mem_of_getElem? (i := 212) rfl))⟩⟩
set_option maxRecDepth 100000 in
theorem fo_PotSearch_97 : fOk "CookedLaw$PotSearch" 97 10 6 0 false := ⟨"CookedLaw$PotSearch", T_PotSearch, 11, rfl, fun w h => gtb_of (in_PotSearch w h).1 (in_PotSearch w h).2, by decide, rfl, rfl, rfl, Or.inl (gk_2 (List.mem_of_getElem? (i := 170) rfl) rfl)⟩
set_option maxRecDepth 100000 in
theorem fo_PotSearch_100 : fOk "CookedLaw$PotSearch" 100 10 7 0 false := ⟨"CookedLaw$PotSearch", T_PotSearch, 11, rfl, fun w h => gtb_of (in_PotSearch w h).1 (in_PotSearch w h).2, by decide, rfl, rfl, rfl, Or.inl (gk_2 (List.mem_of_getElem? (i := 172) rfl) rfl)⟩
set_option maxRecDepth 100000 in
theorem fo_PotSearch_103 : fOk "CookedLaw$PotSearch" 103 10 8 0 false := ⟨"CookedLaw$PotSearch", T_PotSearch, 11, rfl, fun w h => gtb_of (in_PotSearch w h).1 (in_PotSearch w h).2, by decide, rfl, rfl, rfl, Or.inl (gk_2 (List.mem_of_getElem? (i := 173) rfl) rfl)⟩
set_option maxRecDepth 100000 in
theorem fo_Reader_12 : fOk "CookedLaw$Reader" 12 2 0 1 true := ⟨"CookedLaw$Reader", T_Reader, 12, rfl, fun w h => gtb_of (in_Reader w h).1 (in_Reader w h).2, by decide, rfl, rfl, rfl, Or.inl (gk_1 (List.mem_of_getElem? (i := 126) rfl) rfl)⟩
set_option maxRecDepth 100000 in
theorem ff_Reader_12 : ∃ (T : u_T) (N : Nat), cls[2]? = some ("CookedLaw$Reader", T, N) ∧ (∀ w ∈ u_ws "CookedLaw$Reader" T N, w ∈ gtb) ∧ 0 < N ∧ (fks 2)[0]? = some (1, 0) ∧ (T 0).1 = "CookedLaw$Reader" ∧ (T 0).2.2.2 = true ∧ Cond.fieldLink "CookedLaw$Reader" 12 "CookedLaw$Reader" (T 0).2.1 (T 0).2.2.1 ∈ gtb := ⟨T_Reader, 12, rfl, fun w h => gtb_of (in_Reader w h).1 (in_Reader w h).2, by decide, rfl, rfl, rfl, (gk_1 (List.mem_of_getElem? (i := 126) rfl) rfl)⟩
set_option maxRecDepth 100000 in
theorem fo_Reader_18 : fOk "CookedLaw$Reader" 18 2 6 1 true := ⟨"CookedLaw$Reader", T_Reader, 12, rfl, fun w h => gtb_of (in_Reader w h).1 (in_Reader w h).2, by decide, rfl, rfl, rfl, Or.inl (gk_1 (List.mem_of_getElem? (i := 132) rfl) rfl)⟩
set_option maxRecDepth 100000 in
theorem ff_Reader_18 : ∃ (T : u_T) (N : Nat), cls[2]? = some ("CookedLaw$Reader", T, N) ∧ (∀ w ∈ u_ws "CookedLaw$Reader" T N, w ∈ gtb) ∧ 6 < N ∧ (fks 2)[6]? = some (1, 6) ∧ (T 6).1 = "CookedLaw$Reader" ∧ (T 6).2.2.2 = true ∧ Cond.fieldLink "CookedLaw$Reader" 18 "CookedLaw$Reader" (T 6).2.1 (T 6).2.2.1 ∈ gtb := ⟨T_Reader, 12, rfl, fun w h => gtb_of (in_Reader w h).1 (in_Reader w h).2, by decide, rfl, rfl, rfl, (gk_1 (List.mem_of_getElem? (i := 132) rfl) rfl)⟩
set_option maxRecDepth 100000 in
theorem fo_Reader_22 : fOk "CookedLaw$Reader" 22 2 7 1 true := ⟨"CookedLaw$Reader", T_Reader, 12, rfl, fun w h => gtb_of (in_Reader w h).1 (in_Reader w h).2, by decide, rfl, rfl, rfl, Or.inl (gk_1 (List.mem_of_getElem? (i := 133) rfl) rfl)⟩
set_option maxRecDepth 100000 in
theorem ff_Reader_22 : ∃ (T : u_T) (N : Nat), cls[2]? = some ("CookedLaw$Reader", T, N) ∧ (∀ w ∈ u_ws "CookedLaw$Reader" T N, w ∈ gtb) ∧ 7 < N ∧ (fks 2)[7]? = some (1, 7) ∧ (T 7).1 = "CookedLaw$Reader" ∧ (T 7).2.2.2 = true ∧ Cond.fieldLink "CookedLaw$Reader" 22 "CookedLaw$Reader" (T 7).2.1 (T 7).2.2.1 ∈ gtb := ⟨T_Reader, 12, rfl, fun w h => gtb_of (in_Reader w h).1 (in_Reader w h).2, by decide, rfl, rfl, rfl, (gk_1 (List.mem_of_getElem? (i := 133) rfl) rfl)⟩
set_option maxRecDepth 100000 in
theorem fo_Reader_26 : fOk "CookedLaw$Reader" 26 2 9 1 true := ⟨"CookedLaw$Reader", T_Reader, 12, rfl, fun w h => gtb_of (in_Reader w h).1 (in_Reader w h).2, by decide, rfl, rfl, rfl, Or.inl (gk_1 (List.mem_of_getElem? (i := 135) rfl) rfl)⟩
set_option maxRecDepth 100000 in
theorem ff_Reader_26 : ∃ (T : u_T) (N : Nat), cls[2]? = some ("CookedLaw$Reader", T, N) ∧ (∀ w ∈ u_ws "CookedLaw$Reader" T N, w ∈ gtb) ∧ 9 < N ∧ (fks 2)[9]? = some (1, 9) ∧ (T 9).1 = "CookedLaw$Reader" ∧ (T 9).2.2.2 = true ∧ Cond.fieldLink "CookedLaw$Reader" 26 "CookedLaw$Reader" (T 9).2.1 (T 9).2.2.1 ∈ gtb := ⟨T_Reader, 12, rfl, fun w h => gtb_of (in_Reader w h).1 (in_Reader w h).2, by decide, rfl, rfl, rfl, (gk_1 (List.mem_of_getElem? (i := 135) rfl) rfl)⟩
set_option maxRecDepth 100000 in
theorem fo_Reader_38 : fOk "CookedLaw$Reader" 38 2 1 0 false := ⟨"CookedLaw$Reader", T_Reader, 12, rfl, fun w h => gtb_of (in_Reader w h).1 (in_Reader w h).2, by decide, rfl, rfl, rfl, Or.inl (gk_1 (List.mem_of_getElem? (i := 127) rfl) rfl)⟩
set_option maxRecDepth 100000 in
theorem fo_Reader_42 : fOk "CookedLaw$Reader" 42 2 2 0 false := ⟨"CookedLaw$Reader", T_Reader, 12, rfl, fun w h => gtb_of (in_Reader w h).1 (in_Reader w h).2, by decide, rfl, rfl, rfl, Or.inl (gk_1 (List.mem_of_getElem? (i := 128) rfl) rfl)⟩
set_option maxRecDepth 100000 in
theorem fo_Reader_45 : fOk "CookedLaw$Reader" 45 2 4 0 false := ⟨"CookedLaw$Reader", T_Reader, 12, rfl, fun w h => gtb_of (in_Reader w h).1 (in_Reader w h).2, by decide, rfl, rfl, rfl, Or.inl (gk_1 (List.mem_of_getElem? (i := 130) rfl) rfl)⟩
set_option maxRecDepth 100000 in
theorem fo_Reader_48 : fOk "CookedLaw$Reader" 48 2 8 0 false := ⟨"CookedLaw$Reader", T_Reader, 12, rfl, fun w h => gtb_of (in_Reader w h).1 (in_Reader w h).2, by decide, rfl, rfl, rfl, Or.inl (gk_1 (List.mem_of_getElem? (i := 134) rfl) rfl)⟩
set_option maxRecDepth 100000 in
theorem fo_Reader_55 : fOk "CookedLaw$Reader" 55 3 1 1 true := ⟨"CookedLaw$Tokens", T_Tokens, 4, rfl, fun w h => gtb_of (in_Tokens w h).1 (in_Tokens w h).2, by decide, rfl, rfl, rfl, Or.inr ⟨"CookedLaw", (tk_1 (List.mem_of_getElem? (i := 111) rfl))⟩⟩
set_option maxRecDepth 100000 in
theorem fo_Reader_75 : fOk "CookedLaw$Reader" 75 4 13 1 true := ⟨"CookedLaw$Land", T_Land, 18, rfl, fun w h => gtb_of (in_Land w h).1 (in_Land w h).2, by decide, rfl, rfl, rfl, Or.inr ⟨"CookedLaw", (tk_1 (List.mem_of_getElem? (i := 233) rfl))⟩⟩
set_option maxRecDepth 100000 in
theorem fo_Reader_83 : fOk "CookedLaw$Reader" 83 4 14 1 true := ⟨"CookedLaw$Land", T_Land, 18, rfl, fun w h => gtb_of (in_Land w h).1 (in_Land w h).2, by decide, rfl, rfl, rfl, Or.inr ⟨"CookedLaw", (tk_1 (List.mem_of_getElem? (i := 235) rfl))⟩⟩
set_option maxRecDepth 100000 in
theorem fo_Reader_86 : fOk "CookedLaw$Reader" 86 4 15 1 true := ⟨"CookedLaw$Land", T_Land, 18, rfl, fun w h => gtb_of (in_Land w h).1 (in_Land w h).2, by decide, rfl, rfl, rfl, Or.inr ⟨"CookedLaw", (tk_1 (List.mem_of_getElem? (i := 237) rfl))⟩⟩
set_option maxRecDepth 100000 in
theorem fo_Reader_89 : fOk "CookedLaw$Reader" 89 4 16 1 true := ⟨"CookedLaw$Land", T_Land, 18, rfl, fun w h => gtb_of (in_Land w h).1 (in_Land w h).2, by decide, rfl, rfl, rfl, Or.inr ⟨"CookedLaw", (tk_1 (List.mem_of_getElem? (i := 239) rfl))⟩⟩
set_option maxRecDepth 100000 in
theorem fo_Reader_99 : fOk "CookedLaw$Reader" 99 2 5 0 false := ⟨"CookedLaw$Reader", T_Reader, 12, rfl, fun w h => gtb_of (in_Reader w h).1 (in_Reader w h).2, by decide, rfl, rfl, rfl, Or.inl (gk_1 (List.mem_of_getElem? (i := 131) rfl) rfl)⟩
set_option maxRecDepth 100000 in
theorem fo_Reader_102 : fOk "CookedLaw$Reader" 102 2 3 0 false := ⟨"CookedLaw$Reader", T_Reader, 12, rfl, fun w h => gtb_of (in_Reader w h).1 (in_Reader w h).2, by decide, rfl, rfl, rfl, Or.inl (gk_1 (List.mem_of_getElem? (i := 129) rfl) rfl)⟩
set_option maxRecDepth 100000 in
theorem fo_Reader_105 : fOk "CookedLaw$Reader" 105 3 2 1 true := ⟨"CookedLaw$Tokens", T_Tokens, 4, rfl, fun w h => gtb_of (in_Tokens w h).1 (in_Tokens w h).2, by decide, rfl, rfl, rfl, Or.inr ⟨"CookedLaw", (tk_1 (List.mem_of_getElem? (i := 113) rfl))⟩⟩
set_option maxRecDepth 100000 in
theorem fo_Reader_125 : fOk "CookedLaw$Reader" 125 4 0 0 false := ⟨"CookedLaw$Land", T_Land, 18, rfl, fun w h => gtb_of (in_Land w h).1 (in_Land w h).2, by decide, rfl, rfl, rfl, Or.inr ⟨"CookedLaw", (tk_1 (List.mem_of_getElem? (i := 192) rfl))⟩⟩
set_option maxRecDepth 100000 in
theorem fo_Reader_131 : fOk "CookedLaw$Reader" 131 4 5 1 true := ⟨"CookedLaw$Land", T_Land, 18, rfl, fun w h => gtb_of (in_Land w h).1 (in_Land w h).2, by decide, rfl, rfl, rfl, Or.inr ⟨"CookedLaw", (tk_1 (List.mem_of_getElem? (i := 210) rfl))⟩⟩
set_option maxRecDepth 100000 in
theorem fo_Reader_142 : fOk "CookedLaw$Reader" 142 4 6 1 true := ⟨"CookedLaw$Land", T_Land, 18, rfl, fun w h => gtb_of (in_Land w h).1 (in_Land w h).2, by decide, rfl, rfl, rfl, Or.inr ⟨"CookedLaw", (tk_1 (List.mem_of_getElem? (i := 214) rfl))⟩⟩
set_option maxRecDepth 100000 in
theorem fo_Reader_145 : fOk "CookedLaw$Reader" 145 4 7 1 true := ⟨"CookedLaw$Land", T_Land, 18, rfl, fun w h => gtb_of (in_Land w h).1 (in_Land w h).2, by decide, rfl, rfl, rfl, Or.inr ⟨"CookedLaw", (tk_1 (List.mem_of_getElem? (i := 216) rfl))⟩⟩
set_option maxRecDepth 100000 in
theorem fo_Reader_148 : fOk "CookedLaw$Reader" 148 4 1 0 false := ⟨"CookedLaw$Land", T_Land, 18, rfl, fun w h => gtb_of (in_Land w h).1 (in_Land w h).2, by decide, rfl, rfl, rfl, Or.inr ⟨"CookedLaw", (tk_1 (List.mem_of_getElem? (i := 197) rfl))⟩⟩
set_option maxRecDepth 100000 in
theorem fo_Reader_151 : fOk "CookedLaw$Reader" 151 4 8 1 true := ⟨"CookedLaw$Land", T_Land, 18, rfl, fun w h => gtb_of (in_Land w h).1 (in_Land w h).2, by decide, rfl, rfl, rfl, Or.inr ⟨"CookedLaw", (tk_1 (List.mem_of_getElem? (i := 219) rfl))⟩⟩
set_option maxRecDepth 100000 in
theorem fo_Reader_158 : fOk "CookedLaw$Reader" 158 4 9 1 true := ⟨"CookedLaw$Land", T_Land, 18, rfl, fun w h => gtb_of (in_Land w h).1 (in_Land w h).2, by decide, rfl, rfl, rfl, Or.inr ⟨"CookedLaw", (tk_1 (List.mem_of_getElem? (i := 221) rfl))⟩⟩
set_option maxRecDepth 100000 in
theorem fo_Reader_165 : fOk "CookedLaw$Reader" 165 4 2 0 false := ⟨"CookedLaw$Land", T_Land, 18, rfl, fun w h => gtb_of (in_Land w h).1 (in_Land w h).2, by decide, rfl, rfl, rfl, Or.inr ⟨"CookedLaw", (tk_1 (List.mem_of_getElem? (i := 200) rfl))⟩⟩
set_option maxRecDepth 100000 in
theorem fo_Reader_168 : fOk "CookedLaw$Reader" 168 4 10 1 true := ⟨"CookedLaw$Land", T_Land, 18, rfl, fun w h => gtb_of (in_Land w h).1 (in_Land w h).2, by decide, rfl, rfl, rfl, Or.inr ⟨"CookedLaw", (tk_1 (List.mem_of_getElem? (i := 224) rfl))⟩⟩
set_option maxRecDepth 100000 in
theorem fo_Reader_171 : fOk "CookedLaw$Reader" 171 4 3 0 false := ⟨"CookedLaw$Land", T_Land, 18, rfl, fun w h => gtb_of (in_Land w h).1 (in_Land w h).2, by decide, rfl, rfl, rfl, Or.inr ⟨"CookedLaw", (tk_1 (List.mem_of_getElem? (i := 203) rfl))⟩⟩
set_option maxRecDepth 100000 in
theorem fo_Reader_174 : fOk "CookedLaw$Reader" 174 4 11 1 true := ⟨"CookedLaw$Land", T_Land, 18, rfl, fun w h => gtb_of (in_Land w h).1 (in_Land w h).2, by decide, rfl, rfl, rfl, Or.inr ⟨"CookedLaw", (tk_1 (List.mem_of_getElem? (i := 227) rfl))⟩⟩
set_option maxRecDepth 100000 in
theorem fo_Reader_177 : fOk "CookedLaw$Reader" 177 4 12 1 true := ⟨"CookedLaw$Land", T_Land, 18, rfl, fun w h => gtb_of (in_Land w h).1 (in_Land w h).2, by decide, rfl, rfl, rfl, Or.inr ⟨"CookedLaw", (tk_1 (List.mem_of_getElem? (i := 230) rfl))⟩⟩
set_option maxRecDepth 100000 in
theorem fo_Reader_180 : fOk "CookedLaw$Reader" 180 4 4 0 false := ⟨"CookedLaw$Land", T_Land, 18, rfl, fun w h => gtb_of (in_Land w h).1 (in_Land w h).2, by decide, rfl, rfl, rfl, Or.inr ⟨"CookedLaw", (tk_1 (List.mem_of_getElem? (i := 206) rfl))⟩⟩
set_option maxRecDepth 100000 in
theorem fo_Reader_196 : fOk "CookedLaw$Reader" 196 2 11 0 false := ⟨"CookedLaw$Reader", T_Reader, 12, rfl, fun w h => gtb_of (in_Reader w h).1 (in_Reader w h).2, by decide, rfl, rfl, rfl, Or.inl (gk_1 (List.mem_of_getElem? (i := 137) rfl) rfl)⟩
set_option maxRecDepth 100000 in
theorem fo_Reader_199 : fOk "CookedLaw$Reader" 199 2 10 0 false := ⟨"CookedLaw$Reader", T_Reader, 12, rfl, fun w h => gtb_of (in_Reader w h).1 (in_Reader w h).2, by decide, rfl, rfl, rfl, Or.inl (gk_1 (List.mem_of_getElem? (i := 136) rfl) rfl)⟩
set_option maxRecDepth 100000 in
theorem fo_Slots_11 : fOk "CookedLaw$Slots" 11 8 0 1 true := ⟨"CookedLaw$Slots", T_Slots, 2, rfl, fun w h => gtb_of (in_Slots w h).1 (in_Slots w h).2, by decide, rfl, rfl, rfl, Or.inl (gk_2 (List.mem_of_getElem? (i := 114) rfl) rfl)⟩
set_option maxRecDepth 100000 in
theorem ff_Slots_11 : ∃ (T : u_T) (N : Nat), cls[8]? = some ("CookedLaw$Slots", T, N) ∧ (∀ w ∈ u_ws "CookedLaw$Slots" T N, w ∈ gtb) ∧ 0 < N ∧ (fks 8)[0]? = some (1, 0) ∧ (T 0).1 = "CookedLaw$Slots" ∧ (T 0).2.2.2 = true ∧ Cond.fieldLink "CookedLaw$Slots" 11 "CookedLaw$Slots" (T 0).2.1 (T 0).2.2.1 ∈ gtb := ⟨T_Slots, 2, rfl, fun w h => gtb_of (in_Slots w h).1 (in_Slots w h).2, by decide, rfl, rfl, rfl, (gk_2 (List.mem_of_getElem? (i := 114) rfl) rfl)⟩
set_option maxRecDepth 100000 in
theorem fo_Slots_18 : fOk "CookedLaw$Slots" 18 8 1 0 false := ⟨"CookedLaw$Slots", T_Slots, 2, rfl, fun w h => gtb_of (in_Slots w h).1 (in_Slots w h).2, by decide, rfl, rfl, rfl, Or.inl (gk_2 (List.mem_of_getElem? (i := 115) rfl) rfl)⟩
set_option maxRecDepth 100000 in
theorem fo_State_9 : fOk "CookedLaw$State" 9 6 3 0 false := ⟨"CookedLaw$State", T_State, 10, rfl, fun w h => gtb_of (in_State w h).1 (in_State w h).2, by decide, rfl, rfl, rfl, Or.inl (gk_2 (List.mem_of_getElem? (i := 52) rfl) rfl)⟩
set_option maxRecDepth 100000 in
theorem fo_State_15 : fOk "CookedLaw$State" 15 6 4 1 true := ⟨"CookedLaw$State", T_State, 10, rfl, fun w h => gtb_of (in_State w h).1 (in_State w h).2, by decide, rfl, rfl, rfl, Or.inl (gk_2 (List.mem_of_getElem? (i := 54) rfl) rfl)⟩
set_option maxRecDepth 100000 in
theorem ff_State_15 : ∃ (T : u_T) (N : Nat), cls[6]? = some ("CookedLaw$State", T, N) ∧ (∀ w ∈ u_ws "CookedLaw$State" T N, w ∈ gtb) ∧ 4 < N ∧ (fks 6)[4]? = some (1, 4) ∧ (T 4).1 = "CookedLaw$State" ∧ (T 4).2.2.2 = true ∧ Cond.fieldLink "CookedLaw$State" 15 "CookedLaw$State" (T 4).2.1 (T 4).2.2.1 ∈ gtb := ⟨T_State, 10, rfl, fun w h => gtb_of (in_State w h).1 (in_State w h).2, by decide, rfl, rfl, rfl, (gk_2 (List.mem_of_getElem? (i := 54) rfl) rfl)⟩
set_option maxRecDepth 100000 in
theorem fo_State_19 : fOk "CookedLaw$State" 19 6 5 1 true := ⟨"CookedLaw$State", T_State, 10, rfl, fun w h => gtb_of (in_State w h).1 (in_State w h).2, by decide, rfl, rfl, rfl, Or.inl (gk_2 (List.mem_of_getElem? (i := 56) rfl) rfl)⟩
set_option maxRecDepth 100000 in
theorem ff_State_19 : ∃ (T : u_T) (N : Nat), cls[6]? = some ("CookedLaw$State", T, N) ∧ (∀ w ∈ u_ws "CookedLaw$State" T N, w ∈ gtb) ∧ 5 < N ∧ (fks 6)[5]? = some (1, 5) ∧ (T 5).1 = "CookedLaw$State" ∧ (T 5).2.2.2 = true ∧ Cond.fieldLink "CookedLaw$State" 19 "CookedLaw$State" (T 5).2.1 (T 5).2.2.1 ∈ gtb := ⟨T_State, 10, rfl, fun w h => gtb_of (in_State w h).1 (in_State w h).2, by decide, rfl, rfl, rfl, (gk_2 (List.mem_of_getElem? (i := 56) rfl) rfl)⟩
set_option maxRecDepth 100000 in
theorem fo_State_22 : fOk "CookedLaw$State" 22 6 6 1 true := ⟨"CookedLaw$State", T_State, 10, rfl, fun w h => gtb_of (in_State w h).1 (in_State w h).2, by decide, rfl, rfl, rfl, Or.inl (gk_2 (List.mem_of_getElem? (i := 59) rfl) rfl)⟩
set_option maxRecDepth 100000 in
theorem ff_State_22 : ∃ (T : u_T) (N : Nat), cls[6]? = some ("CookedLaw$State", T, N) ∧ (∀ w ∈ u_ws "CookedLaw$State" T N, w ∈ gtb) ∧ 6 < N ∧ (fks 6)[6]? = some (1, 6) ∧ (T 6).1 = "CookedLaw$State" ∧ (T 6).2.2.2 = true ∧ Cond.fieldLink "CookedLaw$State" 22 "CookedLaw$State" (T 6).2.1 (T 6).2.2.1 ∈ gtb := ⟨T_State, 10, rfl, fun w h => gtb_of (in_State w h).1 (in_State w h).2, by decide, rfl, rfl, rfl, (gk_2 (List.mem_of_getElem? (i := 59) rfl) rfl)⟩
set_option maxRecDepth 100000 in
theorem fo_State_25 : fOk "CookedLaw$State" 25 6 7 1 true := ⟨"CookedLaw$State", T_State, 10, rfl, fun w h => gtb_of (in_State w h).1 (in_State w h).2, by decide, rfl, rfl, rfl, Or.inl (gk_2 (List.mem_of_getElem? (i := 61) rfl) rfl)⟩
set_option maxRecDepth 100000 in
theorem ff_State_25 : ∃ (T : u_T) (N : Nat), cls[6]? = some ("CookedLaw$State", T, N) ∧ (∀ w ∈ u_ws "CookedLaw$State" T N, w ∈ gtb) ∧ 7 < N ∧ (fks 6)[7]? = some (1, 7) ∧ (T 7).1 = "CookedLaw$State" ∧ (T 7).2.2.2 = true ∧ Cond.fieldLink "CookedLaw$State" 25 "CookedLaw$State" (T 7).2.1 (T 7).2.2.1 ∈ gtb := ⟨T_State, 10, rfl, fun w h => gtb_of (in_State w h).1 (in_State w h).2, by decide, rfl, rfl, rfl, (gk_2 (List.mem_of_getElem? (i := 61) rfl) rfl)⟩
set_option maxRecDepth 100000 in
theorem fo_State_28 : fOk "CookedLaw$State" 28 6 8 1 true := ⟨"CookedLaw$State", T_State, 10, rfl, fun w h => gtb_of (in_State w h).1 (in_State w h).2, by decide, rfl, rfl, rfl, Or.inl (gk_2 (List.mem_of_getElem? (i := 63) rfl) rfl)⟩
set_option maxRecDepth 100000 in
theorem ff_State_28 : ∃ (T : u_T) (N : Nat), cls[6]? = some ("CookedLaw$State", T, N) ∧ (∀ w ∈ u_ws "CookedLaw$State" T N, w ∈ gtb) ∧ 8 < N ∧ (fks 6)[8]? = some (1, 8) ∧ (T 8).1 = "CookedLaw$State" ∧ (T 8).2.2.2 = true ∧ Cond.fieldLink "CookedLaw$State" 28 "CookedLaw$State" (T 8).2.1 (T 8).2.2.1 ∈ gtb := ⟨T_State, 10, rfl, fun w h => gtb_of (in_State w h).1 (in_State w h).2, by decide, rfl, rfl, rfl, (gk_2 (List.mem_of_getElem? (i := 63) rfl) rfl)⟩
set_option maxRecDepth 100000 in
theorem fo_State_31 : fOk "CookedLaw$State" 31 6 9 1 true := ⟨"CookedLaw$State", T_State, 10, rfl, fun w h => gtb_of (in_State w h).1 (in_State w h).2, by decide, rfl, rfl, rfl, Or.inl (gk_2 (List.mem_of_getElem? (i := 64) rfl) rfl)⟩
set_option maxRecDepth 100000 in
theorem ff_State_31 : ∃ (T : u_T) (N : Nat), cls[6]? = some ("CookedLaw$State", T, N) ∧ (∀ w ∈ u_ws "CookedLaw$State" T N, w ∈ gtb) ∧ 9 < N ∧ (fks 6)[9]? = some (1, 9) ∧ (T 9).1 = "CookedLaw$State" ∧ (T 9).2.2.2 = true ∧ Cond.fieldLink "CookedLaw$State" 31 "CookedLaw$State" (T 9).2.1 (T 9).2.2.1 ∈ gtb := ⟨T_State, 10, rfl, fun w h => gtb_of (in_State w h).1 (in_State w h).2, by decide, rfl, rfl, rfl, (gk_2 (List.mem_of_getElem? (i := 64) rfl) rfl)⟩
set_option maxRecDepth 100000 in
theorem fo_State_34 : fOk "CookedLaw$State" 34 6 0 0 false := ⟨"CookedLaw$State", T_State, 10, rfl, fun w h => gtb_of (in_State w h).1 (in_State w h).2, by decide, rfl, rfl, rfl, Or.inl (gk_2 (List.mem_of_getElem? (i := 44) rfl) rfl)⟩
set_option maxRecDepth 100000 in
theorem fo_State_37 : fOk "CookedLaw$State" 37 6 1 0 false := ⟨"CookedLaw$State", T_State, 10, rfl, fun w h => gtb_of (in_State w h).1 (in_State w h).2, by decide, rfl, rfl, rfl, Or.inl (gk_2 (List.mem_of_getElem? (i := 48) rfl) rfl)⟩
set_option maxRecDepth 100000 in
theorem fo_State_40 : fOk "CookedLaw$State" 40 6 2 0 false := ⟨"CookedLaw$State", T_State, 10, rfl, fun w h => gtb_of (in_State w h).1 (in_State w h).2, by decide, rfl, rfl, rfl, Or.inl (gk_2 (List.mem_of_getElem? (i := 50) rfl) rfl)⟩
set_option maxRecDepth 100000 in
theorem fo_State_47 : fOk "CookedLaw$State" 47 4 0 0 false := ⟨"CookedLaw$Land", T_Land, 18, rfl, fun w h => gtb_of (in_Land w h).1 (in_Land w h).2, by decide, rfl, rfl, rfl, Or.inr ⟨"CookedLaw", (tk_1 (List.mem_of_getElem? (i := 189) rfl))⟩⟩
set_option maxRecDepth 100000 in
theorem fo_State_52 : fOk "CookedLaw$State" 52 4 5 1 true := ⟨"CookedLaw$Land", T_Land, 18, rfl, fun w h => gtb_of (in_Land w h).1 (in_Land w h).2, by decide, rfl, rfl, rfl, Or.inr ⟨"CookedLaw", (tk_1 (List.mem_of_getElem? (i := 209) rfl))⟩⟩
set_option maxRecDepth 100000 in
theorem fo_State_76 : fOk "CookedLaw$State" 76 4 4 0 false := ⟨"CookedLaw$Land", T_Land, 18, rfl, fun w h => gtb_of (in_Land w h).1 (in_Land w h).2, by decide, rfl, rfl, rfl, Or.inr ⟨"CookedLaw", (tk_1 (List.mem_of_getElem? (i := 205) rfl))⟩⟩
set_option maxRecDepth 100000 in
theorem fo_Tape_9 : fOk "CookedLaw$Tape" 9 1 0 1 true := ⟨"CookedLaw$Tape", T_Tape, 2, rfl, fun w h => gtb_of (in_Tape w h).1 (in_Tape w h).2, by decide, rfl, rfl, rfl, Or.inl (gk_1 (List.mem_of_getElem? (i := 34) rfl) rfl)⟩
set_option maxRecDepth 100000 in
theorem ff_Tape_9 : ∃ (T : u_T) (N : Nat), cls[1]? = some ("CookedLaw$Tape", T, N) ∧ (∀ w ∈ u_ws "CookedLaw$Tape" T N, w ∈ gtb) ∧ 0 < N ∧ (fks 1)[0]? = some (1, 0) ∧ (T 0).1 = "CookedLaw$Tape" ∧ (T 0).2.2.2 = true ∧ Cond.fieldLink "CookedLaw$Tape" 9 "CookedLaw$Tape" (T 0).2.1 (T 0).2.2.1 ∈ gtb := ⟨T_Tape, 2, rfl, fun w h => gtb_of (in_Tape w h).1 (in_Tape w h).2, by decide, rfl, rfl, rfl, (gk_1 (List.mem_of_getElem? (i := 34) rfl) rfl)⟩
set_option maxRecDepth 100000 in
theorem fo_Tape_15 : fOk "CookedLaw$Tape" 15 1 1 0 false := ⟨"CookedLaw$Tape", T_Tape, 2, rfl, fun w h => gtb_of (in_Tape w h).1 (in_Tape w h).2, by decide, rfl, rfl, rfl, Or.inl (gk_1 (List.mem_of_getElem? (i := 36) rfl) rfl)⟩
set_option maxRecDepth 100000 in
theorem fo_Tokens_9 : fOk "CookedLaw$Tokens" 9 3 0 1 true := ⟨"CookedLaw$Tokens", T_Tokens, 4, rfl, fun w h => gtb_of (in_Tokens w h).1 (in_Tokens w h).2, by decide, rfl, rfl, rfl, Or.inl (gk_1 (List.mem_of_getElem? (i := 109) rfl) rfl)⟩
set_option maxRecDepth 100000 in
theorem ff_Tokens_9 : ∃ (T : u_T) (N : Nat), cls[3]? = some ("CookedLaw$Tokens", T, N) ∧ (∀ w ∈ u_ws "CookedLaw$Tokens" T N, w ∈ gtb) ∧ 0 < N ∧ (fks 3)[0]? = some (1, 0) ∧ (T 0).1 = "CookedLaw$Tokens" ∧ (T 0).2.2.2 = true ∧ Cond.fieldLink "CookedLaw$Tokens" 9 "CookedLaw$Tokens" (T 0).2.1 (T 0).2.2.1 ∈ gtb := ⟨T_Tokens, 4, rfl, fun w h => gtb_of (in_Tokens w h).1 (in_Tokens w h).2, by decide, rfl, rfl, rfl, (gk_1 (List.mem_of_getElem? (i := 109) rfl) rfl)⟩
set_option maxRecDepth 100000 in
theorem fo_Tokens_15 : fOk "CookedLaw$Tokens" 15 3 1 1 true := ⟨"CookedLaw$Tokens", T_Tokens, 4, rfl, fun w h => gtb_of (in_Tokens w h).1 (in_Tokens w h).2, by decide, rfl, rfl, rfl, Or.inl (gk_1 (List.mem_of_getElem? (i := 110) rfl) rfl)⟩
set_option maxRecDepth 100000 in
theorem ff_Tokens_15 : ∃ (T : u_T) (N : Nat), cls[3]? = some ("CookedLaw$Tokens", T, N) ∧ (∀ w ∈ u_ws "CookedLaw$Tokens" T N, w ∈ gtb) ∧ 1 < N ∧ (fks 3)[1]? = some (1, 1) ∧ (T 1).1 = "CookedLaw$Tokens" ∧ (T 1).2.2.2 = true ∧ Cond.fieldLink "CookedLaw$Tokens" 15 "CookedLaw$Tokens" (T 1).2.1 (T 1).2.2.1 ∈ gtb := ⟨T_Tokens, 4, rfl, fun w h => gtb_of (in_Tokens w h).1 (in_Tokens w h).2, by decide, rfl, rfl, rfl, (gk_1 (List.mem_of_getElem? (i := 110) rfl) rfl)⟩
set_option maxRecDepth 100000 in
theorem fo_Tokens_19 : fOk "CookedLaw$Tokens" 19 3 2 1 true := ⟨"CookedLaw$Tokens", T_Tokens, 4, rfl, fun w h => gtb_of (in_Tokens w h).1 (in_Tokens w h).2, by decide, rfl, rfl, rfl, Or.inl (gk_1 (List.mem_of_getElem? (i := 112) rfl) rfl)⟩
set_option maxRecDepth 100000 in
theorem ff_Tokens_19 : ∃ (T : u_T) (N : Nat), cls[3]? = some ("CookedLaw$Tokens", T, N) ∧ (∀ w ∈ u_ws "CookedLaw$Tokens" T N, w ∈ gtb) ∧ 2 < N ∧ (fks 3)[2]? = some (1, 2) ∧ (T 2).1 = "CookedLaw$Tokens" ∧ (T 2).2.2.2 = true ∧ Cond.fieldLink "CookedLaw$Tokens" 19 "CookedLaw$Tokens" (T 2).2.1 (T 2).2.2.1 ∈ gtb := ⟨T_Tokens, 4, rfl, fun w h => gtb_of (in_Tokens w h).1 (in_Tokens w h).2, by decide, rfl, rfl, rfl, (gk_1 (List.mem_of_getElem? (i := 112) rfl) rfl)⟩
set_option maxRecDepth 100000 in
theorem fo_Tokens_22 : fOk "CookedLaw$Tokens" 22 3 3 1 true := ⟨"CookedLaw$Tokens", T_Tokens, 4, rfl, fun w h => gtb_of (in_Tokens w h).1 (in_Tokens w h).2, by decide, rfl, rfl, rfl, Or.inl (gk_1 (List.mem_of_getElem? (i := 114) rfl) rfl)⟩
set_option maxRecDepth 100000 in
theorem ff_Tokens_22 : ∃ (T : u_T) (N : Nat), cls[3]? = some ("CookedLaw$Tokens", T, N) ∧ (∀ w ∈ u_ws "CookedLaw$Tokens" T N, w ∈ gtb) ∧ 3 < N ∧ (fks 3)[3]? = some (1, 3) ∧ (T 3).1 = "CookedLaw$Tokens" ∧ (T 3).2.2.2 = true ∧ Cond.fieldLink "CookedLaw$Tokens" 22 "CookedLaw$Tokens" (T 3).2.1 (T 3).2.2.1 ∈ gtb := ⟨T_Tokens, 4, rfl, fun w h => gtb_of (in_Tokens w h).1 (in_Tokens w h).2, by decide, rfl, rfl, rfl, (gk_1 (List.mem_of_getElem? (i := 114) rfl) rfl)⟩
set_option maxRecDepth 100000 in
theorem fo_Tokens_55 : fOk "CookedLaw$Tokens" 55 1 1 0 false := ⟨"CookedLaw$Tape", T_Tape, 2, rfl, fun w h => gtb_of (in_Tape w h).1 (in_Tape w h).2, by decide, rfl, rfl, rfl, Or.inr ⟨"CookedLaw", (tk_1 (List.mem_of_getElem? (i := 37) rfl))⟩⟩
set_option maxRecDepth 100000 in
theorem fo_Told_11 : fOk "CookedLaw$Told" 11 9 0 1 true := ⟨"CookedLaw$Told", T_Told, 9, rfl, fun w h => gtb_of (in_Told w h).1 (in_Told w h).2, by decide, rfl, rfl, rfl, Or.inl (gk_2 (List.mem_of_getElem? (i := 127) rfl) rfl)⟩
set_option maxRecDepth 100000 in
theorem ff_Told_11 : ∃ (T : u_T) (N : Nat), cls[9]? = some ("CookedLaw$Told", T, N) ∧ (∀ w ∈ u_ws "CookedLaw$Told" T N, w ∈ gtb) ∧ 0 < N ∧ (fks 9)[0]? = some (1, 0) ∧ (T 0).1 = "CookedLaw$Told" ∧ (T 0).2.2.2 = true ∧ Cond.fieldLink "CookedLaw$Told" 11 "CookedLaw$Told" (T 0).2.1 (T 0).2.2.1 ∈ gtb := ⟨T_Told, 9, rfl, fun w h => gtb_of (in_Told w h).1 (in_Told w h).2, by decide, rfl, rfl, rfl, (gk_2 (List.mem_of_getElem? (i := 127) rfl) rfl)⟩
set_option maxRecDepth 100000 in
theorem fo_Told_15 : fOk "CookedLaw$Told" 15 9 1 1 true := ⟨"CookedLaw$Told", T_Told, 9, rfl, fun w h => gtb_of (in_Told w h).1 (in_Told w h).2, by decide, rfl, rfl, rfl, Or.inl (gk_2 (List.mem_of_getElem? (i := 128) rfl) rfl)⟩
set_option maxRecDepth 100000 in
theorem ff_Told_15 : ∃ (T : u_T) (N : Nat), cls[9]? = some ("CookedLaw$Told", T, N) ∧ (∀ w ∈ u_ws "CookedLaw$Told" T N, w ∈ gtb) ∧ 1 < N ∧ (fks 9)[1]? = some (1, 1) ∧ (T 1).1 = "CookedLaw$Told" ∧ (T 1).2.2.2 = true ∧ Cond.fieldLink "CookedLaw$Told" 15 "CookedLaw$Told" (T 1).2.1 (T 1).2.2.1 ∈ gtb := ⟨T_Told, 9, rfl, fun w h => gtb_of (in_Told w h).1 (in_Told w h).2, by decide, rfl, rfl, rfl, (gk_2 (List.mem_of_getElem? (i := 128) rfl) rfl)⟩
set_option maxRecDepth 100000 in
theorem fo_Told_18 : fOk "CookedLaw$Told" 18 9 2 1 true := ⟨"CookedLaw$Told", T_Told, 9, rfl, fun w h => gtb_of (in_Told w h).1 (in_Told w h).2, by decide, rfl, rfl, rfl, Or.inl (gk_2 (List.mem_of_getElem? (i := 129) rfl) rfl)⟩
set_option maxRecDepth 100000 in
theorem ff_Told_18 : ∃ (T : u_T) (N : Nat), cls[9]? = some ("CookedLaw$Told", T, N) ∧ (∀ w ∈ u_ws "CookedLaw$Told" T N, w ∈ gtb) ∧ 2 < N ∧ (fks 9)[2]? = some (1, 2) ∧ (T 2).1 = "CookedLaw$Told" ∧ (T 2).2.2.2 = true ∧ Cond.fieldLink "CookedLaw$Told" 18 "CookedLaw$Told" (T 2).2.1 (T 2).2.2.1 ∈ gtb := ⟨T_Told, 9, rfl, fun w h => gtb_of (in_Told w h).1 (in_Told w h).2, by decide, rfl, rfl, rfl, (gk_2 (List.mem_of_getElem? (i := 129) rfl) rfl)⟩
set_option maxRecDepth 100000 in
theorem fo_Told_21 : fOk "CookedLaw$Told" 21 9 4 1 true := ⟨"CookedLaw$Told", T_Told, 9, rfl, fun w h => gtb_of (in_Told w h).1 (in_Told w h).2, by decide, rfl, rfl, rfl, Or.inl (gk_2 (List.mem_of_getElem? (i := 132) rfl) rfl)⟩
set_option maxRecDepth 100000 in
theorem ff_Told_21 : ∃ (T : u_T) (N : Nat), cls[9]? = some ("CookedLaw$Told", T, N) ∧ (∀ w ∈ u_ws "CookedLaw$Told" T N, w ∈ gtb) ∧ 4 < N ∧ (fks 9)[4]? = some (1, 4) ∧ (T 4).1 = "CookedLaw$Told" ∧ (T 4).2.2.2 = true ∧ Cond.fieldLink "CookedLaw$Told" 21 "CookedLaw$Told" (T 4).2.1 (T 4).2.2.1 ∈ gtb := ⟨T_Told, 9, rfl, fun w h => gtb_of (in_Told w h).1 (in_Told w h).2, by decide, rfl, rfl, rfl, (gk_2 (List.mem_of_getElem? (i := 132) rfl) rfl)⟩
set_option maxRecDepth 100000 in
theorem fo_Told_24 : fOk "CookedLaw$Told" 24 9 5 1 true := ⟨"CookedLaw$Told", T_Told, 9, rfl, fun w h => gtb_of (in_Told w h).1 (in_Told w h).2, by decide, rfl, rfl, rfl, Or.inl (gk_2 (List.mem_of_getElem? (i := 133) rfl) rfl)⟩
set_option maxRecDepth 100000 in
theorem ff_Told_24 : ∃ (T : u_T) (N : Nat), cls[9]? = some ("CookedLaw$Told", T, N) ∧ (∀ w ∈ u_ws "CookedLaw$Told" T N, w ∈ gtb) ∧ 5 < N ∧ (fks 9)[5]? = some (1, 5) ∧ (T 5).1 = "CookedLaw$Told" ∧ (T 5).2.2.2 = true ∧ Cond.fieldLink "CookedLaw$Told" 24 "CookedLaw$Told" (T 5).2.1 (T 5).2.2.1 ∈ gtb := ⟨T_Told, 9, rfl, fun w h => gtb_of (in_Told w h).1 (in_Told w h).2, by decide, rfl, rfl, rfl, (gk_2 (List.mem_of_getElem? (i := 133) rfl) rfl)⟩
set_option maxRecDepth 100000 in
theorem fo_Told_27 : fOk "CookedLaw$Told" 27 9 6 1 true := ⟨"CookedLaw$Told", T_Told, 9, rfl, fun w h => gtb_of (in_Told w h).1 (in_Told w h).2, by decide, rfl, rfl, rfl, Or.inl (gk_2 (List.mem_of_getElem? (i := 134) rfl) rfl)⟩
set_option maxRecDepth 100000 in
theorem ff_Told_27 : ∃ (T : u_T) (N : Nat), cls[9]? = some ("CookedLaw$Told", T, N) ∧ (∀ w ∈ u_ws "CookedLaw$Told" T N, w ∈ gtb) ∧ 6 < N ∧ (fks 9)[6]? = some (1, 6) ∧ (T 6).1 = "CookedLaw$Told" ∧ (T 6).2.2.2 = true ∧ Cond.fieldLink "CookedLaw$Told" 27 "CookedLaw$Told" (T 6).2.1 (T 6).2.2.1 ∈ gtb := ⟨T_Told, 9, rfl, fun w h => gtb_of (in_Told w h).1 (in_Told w h).2, by decide, rfl, rfl, rfl, (gk_2 (List.mem_of_getElem? (i := 134) rfl) rfl)⟩
set_option maxRecDepth 100000 in
theorem fo_Told_30 : fOk "CookedLaw$Told" 30 9 8 1 true := ⟨"CookedLaw$Told", T_Told, 9, rfl, fun w h => gtb_of (in_Told w h).1 (in_Told w h).2, by decide, rfl, rfl, rfl, Or.inl (gk_2 (List.mem_of_getElem? (i := 137) rfl) rfl)⟩
set_option maxRecDepth 100000 in
theorem ff_Told_30 : ∃ (T : u_T) (N : Nat), cls[9]? = some ("CookedLaw$Told", T, N) ∧ (∀ w ∈ u_ws "CookedLaw$Told" T N, w ∈ gtb) ∧ 8 < N ∧ (fks 9)[8]? = some (1, 8) ∧ (T 8).1 = "CookedLaw$Told" ∧ (T 8).2.2.2 = true ∧ Cond.fieldLink "CookedLaw$Told" 30 "CookedLaw$Told" (T 8).2.1 (T 8).2.2.1 ∈ gtb := ⟨T_Told, 9, rfl, fun w h => gtb_of (in_Told w h).1 (in_Told w h).2, by decide, rfl, rfl, rfl, (gk_2 (List.mem_of_getElem? (i := 137) rfl) rfl)⟩
set_option maxRecDepth 100000 in
theorem fo_Told_33 : fOk "CookedLaw$Told" 33 9 3 0 false := ⟨"CookedLaw$Told", T_Told, 9, rfl, fun w h => gtb_of (in_Told w h).1 (in_Told w h).2, by decide, rfl, rfl, rfl, Or.inl (gk_2 (List.mem_of_getElem? (i := 130) rfl) rfl)⟩
set_option maxRecDepth 100000 in
theorem fo_Told_41 : fOk "CookedLaw$Told" 41 9 7 0 false := ⟨"CookedLaw$Told", T_Told, 9, rfl, fun w h => gtb_of (in_Told w h).1 (in_Told w h).2, by decide, rfl, rfl, rfl, Or.inl (gk_2 (List.mem_of_getElem? (i := 135) rfl) rfl)⟩
set_option maxRecDepth 100000 in
theorem fo_Told_44 : fOk "CookedLaw$Told" 44 4 1 0 false := ⟨"CookedLaw$Land", T_Land, 18, rfl, fun w h => gtb_of (in_Land w h).1 (in_Land w h).2, by decide, rfl, rfl, rfl, Or.inr ⟨"CookedLaw", (tk_1 (List.mem_of_getElem? (i := 195) rfl))⟩⟩
set_option maxRecDepth 100000 in
theorem fo_Told_60 : fOk "CookedLaw$Told" 60 4 0 0 false := ⟨"CookedLaw$Land", T_Land, 18, rfl, fun w h => gtb_of (in_Land w h).1 (in_Land w h).2, by decide, rfl, rfl, rfl, Or.inr ⟨"CookedLaw", (tk_1 (List.mem_of_getElem? (i := 190) rfl))⟩⟩
set_option maxRecDepth 100000 in
theorem fo_Mod_13 : fOk "CookedLawModel" 13 12 1 1 true := ⟨"CookedLawModel", T_Mod, 71, rfl, fun w h => gtb_of (in_Mod w h).1 (in_Mod w h).2, by decide, rfl, rfl, rfl, Or.inl (gk_5 (List.mem_of_getElem? (i := 204) rfl) rfl)⟩
set_option maxRecDepth 100000 in
theorem ff_Mod_13 : ∃ (T : u_T) (N : Nat), cls[12]? = some ("CookedLawModel", T, N) ∧ (∀ w ∈ u_ws "CookedLawModel" T N, w ∈ gtb) ∧ 1 < N ∧ (fks 12)[1]? = some (1, 1) ∧ (T 1).1 = "CookedLawModel" ∧ (T 1).2.2.2 = true ∧ Cond.fieldLink "CookedLawModel" 13 "CookedLawModel" (T 1).2.1 (T 1).2.2.1 ∈ gtb := ⟨T_Mod, 71, rfl, fun w h => gtb_of (in_Mod w h).1 (in_Mod w h).2, by decide, rfl, rfl, rfl, (gk_5 (List.mem_of_getElem? (i := 204) rfl) rfl)⟩
set_option maxRecDepth 100000 in
theorem fo_Mod_17 : fOk "CookedLawModel" 17 12 3 1 true := ⟨"CookedLawModel", T_Mod, 71, rfl, fun w h => gtb_of (in_Mod w h).1 (in_Mod w h).2, by decide, rfl, rfl, rfl, Or.inl (gk_5 (List.mem_of_getElem? (i := 206) rfl) rfl)⟩
set_option maxRecDepth 100000 in
theorem ff_Mod_17 : ∃ (T : u_T) (N : Nat), cls[12]? = some ("CookedLawModel", T, N) ∧ (∀ w ∈ u_ws "CookedLawModel" T N, w ∈ gtb) ∧ 3 < N ∧ (fks 12)[3]? = some (1, 3) ∧ (T 3).1 = "CookedLawModel" ∧ (T 3).2.2.2 = true ∧ Cond.fieldLink "CookedLawModel" 17 "CookedLawModel" (T 3).2.1 (T 3).2.2.1 ∈ gtb := ⟨T_Mod, 71, rfl, fun w h => gtb_of (in_Mod w h).1 (in_Mod w h).2, by decide, rfl, rfl, rfl, (gk_5 (List.mem_of_getElem? (i := 206) rfl) rfl)⟩
set_option maxRecDepth 100000 in
theorem fo_Mod_20 : fOk "CookedLawModel" 20 12 5 1 true := ⟨"CookedLawModel", T_Mod, 71, rfl, fun w h => gtb_of (in_Mod w h).1 (in_Mod w h).2, by decide, rfl, rfl, rfl, Or.inl (gk_5 (List.mem_of_getElem? (i := 208) rfl) rfl)⟩
set_option maxRecDepth 100000 in
theorem ff_Mod_20 : ∃ (T : u_T) (N : Nat), cls[12]? = some ("CookedLawModel", T, N) ∧ (∀ w ∈ u_ws "CookedLawModel" T N, w ∈ gtb) ∧ 5 < N ∧ (fks 12)[5]? = some (1, 5) ∧ (T 5).1 = "CookedLawModel" ∧ (T 5).2.2.2 = true ∧ Cond.fieldLink "CookedLawModel" 20 "CookedLawModel" (T 5).2.1 (T 5).2.2.1 ∈ gtb := ⟨T_Mod, 71, rfl, fun w h => gtb_of (in_Mod w h).1 (in_Mod w h).2, by decide, rfl, rfl, rfl, (gk_5 (List.mem_of_getElem? (i := 208) rfl) rfl)⟩
set_option maxRecDepth 100000 in
theorem fo_Mod_24 : fOk "CookedLawModel" 24 12 6 1 true := ⟨"CookedLawModel", T_Mod, 71, rfl, fun w h => gtb_of (in_Mod w h).1 (in_Mod w h).2, by decide, rfl, rfl, rfl, Or.inl (gk_5 (List.mem_of_getElem? (i := 209) rfl) rfl)⟩
set_option maxRecDepth 100000 in
theorem ff_Mod_24 : ∃ (T : u_T) (N : Nat), cls[12]? = some ("CookedLawModel", T, N) ∧ (∀ w ∈ u_ws "CookedLawModel" T N, w ∈ gtb) ∧ 6 < N ∧ (fks 12)[6]? = some (1, 6) ∧ (T 6).1 = "CookedLawModel" ∧ (T 6).2.2.2 = true ∧ Cond.fieldLink "CookedLawModel" 24 "CookedLawModel" (T 6).2.1 (T 6).2.2.1 ∈ gtb := ⟨T_Mod, 71, rfl, fun w h => gtb_of (in_Mod w h).1 (in_Mod w h).2, by decide, rfl, rfl, rfl, (gk_5 (List.mem_of_getElem? (i := 209) rfl) rfl)⟩
set_option maxRecDepth 100000 in
theorem fo_Mod_27 : fOk "CookedLawModel" 27 12 7 1 true := ⟨"CookedLawModel", T_Mod, 71, rfl, fun w h => gtb_of (in_Mod w h).1 (in_Mod w h).2, by decide, rfl, rfl, rfl, Or.inl (gk_5 (List.mem_of_getElem? (i := 210) rfl) rfl)⟩
set_option maxRecDepth 100000 in
theorem ff_Mod_27 : ∃ (T : u_T) (N : Nat), cls[12]? = some ("CookedLawModel", T, N) ∧ (∀ w ∈ u_ws "CookedLawModel" T N, w ∈ gtb) ∧ 7 < N ∧ (fks 12)[7]? = some (1, 7) ∧ (T 7).1 = "CookedLawModel" ∧ (T 7).2.2.2 = true ∧ Cond.fieldLink "CookedLawModel" 27 "CookedLawModel" (T 7).2.1 (T 7).2.2.1 ∈ gtb := ⟨T_Mod, 71, rfl, fun w h => gtb_of (in_Mod w h).1 (in_Mod w h).2, by decide, rfl, rfl, rfl, (gk_5 (List.mem_of_getElem? (i := 210) rfl) rfl)⟩
set_option maxRecDepth 100000 in
theorem fo_Mod_30 : fOk "CookedLawModel" 30 12 8 1 true := ⟨"CookedLawModel", T_Mod, 71, rfl, fun w h => gtb_of (in_Mod w h).1 (in_Mod w h).2, by decide, rfl, rfl, rfl, Or.inl (gk_5 (List.mem_of_getElem? (i := 211) rfl) rfl)⟩
set_option maxRecDepth 100000 in
theorem ff_Mod_30 : ∃ (T : u_T) (N : Nat), cls[12]? = some ("CookedLawModel", T, N) ∧ (∀ w ∈ u_ws "CookedLawModel" T N, w ∈ gtb) ∧ 8 < N ∧ (fks 12)[8]? = some (1, 8) ∧ (T 8).1 = "CookedLawModel" ∧ (T 8).2.2.2 = true ∧ Cond.fieldLink "CookedLawModel" 30 "CookedLawModel" (T 8).2.1 (T 8).2.2.1 ∈ gtb := ⟨T_Mod, 71, rfl, fun w h => gtb_of (in_Mod w h).1 (in_Mod w h).2, by decide, rfl, rfl, rfl, (gk_5 (List.mem_of_getElem? (i := 211) rfl) rfl)⟩
set_option maxRecDepth 100000 in
theorem fo_Mod_34 : fOk "CookedLawModel" 34 12 9 1 true := ⟨"CookedLawModel", T_Mod, 71, rfl, fun w h => gtb_of (in_Mod w h).1 (in_Mod w h).2, by decide, rfl, rfl, rfl, Or.inl (gk_5 (List.mem_of_getElem? (i := 212) rfl) rfl)⟩
set_option maxRecDepth 100000 in
theorem ff_Mod_34 : ∃ (T : u_T) (N : Nat), cls[12]? = some ("CookedLawModel", T, N) ∧ (∀ w ∈ u_ws "CookedLawModel" T N, w ∈ gtb) ∧ 9 < N ∧ (fks 12)[9]? = some (1, 9) ∧ (T 9).1 = "CookedLawModel" ∧ (T 9).2.2.2 = true ∧ Cond.fieldLink "CookedLawModel" 34 "CookedLawModel" (T 9).2.1 (T 9).2.2.1 ∈ gtb := ⟨T_Mod, 71, rfl, fun w h => gtb_of (in_Mod w h).1 (in_Mod w h).2, by decide, rfl, rfl, rfl, (gk_5 (List.mem_of_getElem? (i := 212) rfl) rfl)⟩
set_option maxRecDepth 100000 in
theorem fo_Mod_37 : fOk "CookedLawModel" 37 12 17 0 false := ⟨"CookedLawModel", T_Mod, 71, rfl, fun w h => gtb_of (in_Mod w h).1 (in_Mod w h).2, by decide, rfl, rfl, rfl, Or.inl (gk_5 (List.mem_of_getElem? (i := 220) rfl) rfl)⟩
set_option maxRecDepth 100000 in
theorem fo_Mod_40 : fOk "CookedLawModel" 40 12 21 1 true := ⟨"CookedLawModel", T_Mod, 71, rfl, fun w h => gtb_of (in_Mod w h).1 (in_Mod w h).2, by decide, rfl, rfl, rfl, Or.inl (gk_5 (List.mem_of_getElem? (i := 224) rfl) rfl)⟩
set_option maxRecDepth 100000 in
theorem ff_Mod_40 : ∃ (T : u_T) (N : Nat), cls[12]? = some ("CookedLawModel", T, N) ∧ (∀ w ∈ u_ws "CookedLawModel" T N, w ∈ gtb) ∧ 21 < N ∧ (fks 12)[21]? = some (1, 21) ∧ (T 21).1 = "CookedLawModel" ∧ (T 21).2.2.2 = true ∧ Cond.fieldLink "CookedLawModel" 40 "CookedLawModel" (T 21).2.1 (T 21).2.2.1 ∈ gtb := ⟨T_Mod, 71, rfl, fun w h => gtb_of (in_Mod w h).1 (in_Mod w h).2, by decide, rfl, rfl, rfl, (gk_5 (List.mem_of_getElem? (i := 224) rfl) rfl)⟩
set_option maxRecDepth 100000 in
theorem fo_Mod_43 : fOk "CookedLawModel" 43 12 22 1 true := ⟨"CookedLawModel", T_Mod, 71, rfl, fun w h => gtb_of (in_Mod w h).1 (in_Mod w h).2, by decide, rfl, rfl, rfl, Or.inl (gk_5 (List.mem_of_getElem? (i := 225) rfl) rfl)⟩
set_option maxRecDepth 100000 in
theorem ff_Mod_43 : ∃ (T : u_T) (N : Nat), cls[12]? = some ("CookedLawModel", T, N) ∧ (∀ w ∈ u_ws "CookedLawModel" T N, w ∈ gtb) ∧ 22 < N ∧ (fks 12)[22]? = some (1, 22) ∧ (T 22).1 = "CookedLawModel" ∧ (T 22).2.2.2 = true ∧ Cond.fieldLink "CookedLawModel" 43 "CookedLawModel" (T 22).2.1 (T 22).2.2.1 ∈ gtb := ⟨T_Mod, 71, rfl, fun w h => gtb_of (in_Mod w h).1 (in_Mod w h).2, by decide, rfl, rfl, rfl, (gk_5 (List.mem_of_getElem? (i := 225) rfl) rfl)⟩
set_option maxRecDepth 100000 in
theorem fo_Mod_46 : fOk "CookedLawModel" 46 12 23 1 true := ⟨"CookedLawModel", T_Mod, 71, rfl, fun w h => gtb_of (in_Mod w h).1 (in_Mod w h).2, by decide, rfl, rfl, rfl, Or.inl (gk_5 (List.mem_of_getElem? (i := 226) rfl) rfl)⟩
set_option maxRecDepth 100000 in
theorem ff_Mod_46 : ∃ (T : u_T) (N : Nat), cls[12]? = some ("CookedLawModel", T, N) ∧ (∀ w ∈ u_ws "CookedLawModel" T N, w ∈ gtb) ∧ 23 < N ∧ (fks 12)[23]? = some (1, 23) ∧ (T 23).1 = "CookedLawModel" ∧ (T 23).2.2.2 = true ∧ Cond.fieldLink "CookedLawModel" 46 "CookedLawModel" (T 23).2.1 (T 23).2.2.1 ∈ gtb := ⟨T_Mod, 71, rfl, fun w h => gtb_of (in_Mod w h).1 (in_Mod w h).2, by decide, rfl, rfl, rfl, (gk_5 (List.mem_of_getElem? (i := 226) rfl) rfl)⟩
set_option maxRecDepth 100000 in
theorem fo_Mod_49 : fOk "CookedLawModel" 49 12 24 1 true := ⟨"CookedLawModel", T_Mod, 71, rfl, fun w h => gtb_of (in_Mod w h).1 (in_Mod w h).2, by decide, rfl, rfl, rfl, Or.inl (gk_5 (List.mem_of_getElem? (i := 227) rfl) rfl)⟩
set_option maxRecDepth 100000 in
theorem ff_Mod_49 : ∃ (T : u_T) (N : Nat), cls[12]? = some ("CookedLawModel", T, N) ∧ (∀ w ∈ u_ws "CookedLawModel" T N, w ∈ gtb) ∧ 24 < N ∧ (fks 12)[24]? = some (1, 24) ∧ (T 24).1 = "CookedLawModel" ∧ (T 24).2.2.2 = true ∧ Cond.fieldLink "CookedLawModel" 49 "CookedLawModel" (T 24).2.1 (T 24).2.2.1 ∈ gtb := ⟨T_Mod, 71, rfl, fun w h => gtb_of (in_Mod w h).1 (in_Mod w h).2, by decide, rfl, rfl, rfl, (gk_5 (List.mem_of_getElem? (i := 227) rfl) rfl)⟩
set_option maxRecDepth 100000 in
theorem fo_Mod_52 : fOk "CookedLawModel" 52 12 25 1 true := ⟨"CookedLawModel", T_Mod, 71, rfl, fun w h => gtb_of (in_Mod w h).1 (in_Mod w h).2, by decide, rfl, rfl, rfl, Or.inl (gk_5 (List.mem_of_getElem? (i := 228) rfl) rfl)⟩
set_option maxRecDepth 100000 in
theorem ff_Mod_52 : ∃ (T : u_T) (N : Nat), cls[12]? = some ("CookedLawModel", T, N) ∧ (∀ w ∈ u_ws "CookedLawModel" T N, w ∈ gtb) ∧ 25 < N ∧ (fks 12)[25]? = some (1, 25) ∧ (T 25).1 = "CookedLawModel" ∧ (T 25).2.2.2 = true ∧ Cond.fieldLink "CookedLawModel" 52 "CookedLawModel" (T 25).2.1 (T 25).2.2.1 ∈ gtb := ⟨T_Mod, 71, rfl, fun w h => gtb_of (in_Mod w h).1 (in_Mod w h).2, by decide, rfl, rfl, rfl, (gk_5 (List.mem_of_getElem? (i := 228) rfl) rfl)⟩
set_option maxRecDepth 100000 in
theorem fo_Mod_55 : fOk "CookedLawModel" 55 12 26 1 true := ⟨"CookedLawModel", T_Mod, 71, rfl, fun w h => gtb_of (in_Mod w h).1 (in_Mod w h).2, by decide, rfl, rfl, rfl, Or.inl (gk_5 (List.mem_of_getElem? (i := 229) rfl) rfl)⟩
set_option maxRecDepth 100000 in
theorem ff_Mod_55 : ∃ (T : u_T) (N : Nat), cls[12]? = some ("CookedLawModel", T, N) ∧ (∀ w ∈ u_ws "CookedLawModel" T N, w ∈ gtb) ∧ 26 < N ∧ (fks 12)[26]? = some (1, 26) ∧ (T 26).1 = "CookedLawModel" ∧ (T 26).2.2.2 = true ∧ Cond.fieldLink "CookedLawModel" 55 "CookedLawModel" (T 26).2.1 (T 26).2.2.1 ∈ gtb := ⟨T_Mod, 71, rfl, fun w h => gtb_of (in_Mod w h).1 (in_Mod w h).2, by decide, rfl, rfl, rfl, (gk_5 (List.mem_of_getElem? (i := 229) rfl) rfl)⟩
set_option maxRecDepth 100000 in
theorem fo_Mod_58 : fOk "CookedLawModel" 58 12 27 1 true := ⟨"CookedLawModel", T_Mod, 71, rfl, fun w h => gtb_of (in_Mod w h).1 (in_Mod w h).2, by decide, rfl, rfl, rfl, Or.inl (gk_5 (List.mem_of_getElem? (i := 230) rfl) rfl)⟩
set_option maxRecDepth 100000 in
theorem ff_Mod_58 : ∃ (T : u_T) (N : Nat), cls[12]? = some ("CookedLawModel", T, N) ∧ (∀ w ∈ u_ws "CookedLawModel" T N, w ∈ gtb) ∧ 27 < N ∧ (fks 12)[27]? = some (1, 27) ∧ (T 27).1 = "CookedLawModel" ∧ (T 27).2.2.2 = true ∧ Cond.fieldLink "CookedLawModel" 58 "CookedLawModel" (T 27).2.1 (T 27).2.2.1 ∈ gtb := ⟨T_Mod, 71, rfl, fun w h => gtb_of (in_Mod w h).1 (in_Mod w h).2, by decide, rfl, rfl, rfl, (gk_5 (List.mem_of_getElem? (i := 230) rfl) rfl)⟩
set_option maxRecDepth 100000 in
theorem fo_Mod_61 : fOk "CookedLawModel" 61 12 28 1 true := ⟨"CookedLawModel", T_Mod, 71, rfl, fun w h => gtb_of (in_Mod w h).1 (in_Mod w h).2, by decide, rfl, rfl, rfl, Or.inl (gk_5 (List.mem_of_getElem? (i := 231) rfl) rfl)⟩
set_option maxRecDepth 100000 in
theorem ff_Mod_61 : ∃ (T : u_T) (N : Nat), cls[12]? = some ("CookedLawModel", T, N) ∧ (∀ w ∈ u_ws "CookedLawModel" T N, w ∈ gtb) ∧ 28 < N ∧ (fks 12)[28]? = some (1, 28) ∧ (T 28).1 = "CookedLawModel" ∧ (T 28).2.2.2 = true ∧ Cond.fieldLink "CookedLawModel" 61 "CookedLawModel" (T 28).2.1 (T 28).2.2.1 ∈ gtb := ⟨T_Mod, 71, rfl, fun w h => gtb_of (in_Mod w h).1 (in_Mod w h).2, by decide, rfl, rfl, rfl, (gk_5 (List.mem_of_getElem? (i := 231) rfl) rfl)⟩
set_option maxRecDepth 100000 in
theorem fo_Mod_64 : fOk "CookedLawModel" 64 12 29 1 true := ⟨"CookedLawModel", T_Mod, 71, rfl, fun w h => gtb_of (in_Mod w h).1 (in_Mod w h).2, by decide, rfl, rfl, rfl, Or.inl (gk_5 (List.mem_of_getElem? (i := 232) rfl) rfl)⟩
set_option maxRecDepth 100000 in
theorem ff_Mod_64 : ∃ (T : u_T) (N : Nat), cls[12]? = some ("CookedLawModel", T, N) ∧ (∀ w ∈ u_ws "CookedLawModel" T N, w ∈ gtb) ∧ 29 < N ∧ (fks 12)[29]? = some (1, 29) ∧ (T 29).1 = "CookedLawModel" ∧ (T 29).2.2.2 = true ∧ Cond.fieldLink "CookedLawModel" 64 "CookedLawModel" (T 29).2.1 (T 29).2.2.1 ∈ gtb := ⟨T_Mod, 71, rfl, fun w h => gtb_of (in_Mod w h).1 (in_Mod w h).2, by decide, rfl, rfl, rfl, (gk_5 (List.mem_of_getElem? (i := 232) rfl) rfl)⟩
set_option maxRecDepth 100000 in
theorem fo_Mod_67 : fOk "CookedLawModel" 67 12 30 1 true := ⟨"CookedLawModel", T_Mod, 71, rfl, fun w h => gtb_of (in_Mod w h).1 (in_Mod w h).2, by decide, rfl, rfl, rfl, Or.inl (gk_5 (List.mem_of_getElem? (i := 233) rfl) rfl)⟩
set_option maxRecDepth 100000 in
theorem ff_Mod_67 : ∃ (T : u_T) (N : Nat), cls[12]? = some ("CookedLawModel", T, N) ∧ (∀ w ∈ u_ws "CookedLawModel" T N, w ∈ gtb) ∧ 30 < N ∧ (fks 12)[30]? = some (1, 30) ∧ (T 30).1 = "CookedLawModel" ∧ (T 30).2.2.2 = true ∧ Cond.fieldLink "CookedLawModel" 67 "CookedLawModel" (T 30).2.1 (T 30).2.2.1 ∈ gtb := ⟨T_Mod, 71, rfl, fun w h => gtb_of (in_Mod w h).1 (in_Mod w h).2, by decide, rfl, rfl, rfl, (gk_5 (List.mem_of_getElem? (i := 233) rfl) rfl)⟩
set_option maxRecDepth 100000 in
theorem fo_Mod_70 : fOk "CookedLawModel" 70 12 31 1 true := ⟨"CookedLawModel", T_Mod, 71, rfl, fun w h => gtb_of (in_Mod w h).1 (in_Mod w h).2, by decide, rfl, rfl, rfl, Or.inl (gk_5 (List.mem_of_getElem? (i := 234) rfl) rfl)⟩
set_option maxRecDepth 100000 in
theorem ff_Mod_70 : ∃ (T : u_T) (N : Nat), cls[12]? = some ("CookedLawModel", T, N) ∧ (∀ w ∈ u_ws "CookedLawModel" T N, w ∈ gtb) ∧ 31 < N ∧ (fks 12)[31]? = some (1, 31) ∧ (T 31).1 = "CookedLawModel" ∧ (T 31).2.2.2 = true ∧ Cond.fieldLink "CookedLawModel" 70 "CookedLawModel" (T 31).2.1 (T 31).2.2.1 ∈ gtb := ⟨T_Mod, 71, rfl, fun w h => gtb_of (in_Mod w h).1 (in_Mod w h).2, by decide, rfl, rfl, rfl, (gk_5 (List.mem_of_getElem? (i := 234) rfl) rfl)⟩
set_option maxRecDepth 100000 in
theorem fo_Mod_73 : fOk "CookedLawModel" 73 12 32 1 true := ⟨"CookedLawModel", T_Mod, 71, rfl, fun w h => gtb_of (in_Mod w h).1 (in_Mod w h).2, by decide, rfl, rfl, rfl, Or.inl (gk_5 (List.mem_of_getElem? (i := 235) rfl) rfl)⟩
set_option maxRecDepth 100000 in
theorem ff_Mod_73 : ∃ (T : u_T) (N : Nat), cls[12]? = some ("CookedLawModel", T, N) ∧ (∀ w ∈ u_ws "CookedLawModel" T N, w ∈ gtb) ∧ 32 < N ∧ (fks 12)[32]? = some (1, 32) ∧ (T 32).1 = "CookedLawModel" ∧ (T 32).2.2.2 = true ∧ Cond.fieldLink "CookedLawModel" 73 "CookedLawModel" (T 32).2.1 (T 32).2.2.1 ∈ gtb := ⟨T_Mod, 71, rfl, fun w h => gtb_of (in_Mod w h).1 (in_Mod w h).2, by decide, rfl, rfl, rfl, (gk_5 (List.mem_of_getElem? (i := 235) rfl) rfl)⟩
set_option maxRecDepth 100000 in
theorem fo_Mod_76 : fOk "CookedLawModel" 76 12 33 1 true := ⟨"CookedLawModel", T_Mod, 71, rfl, fun w h => gtb_of (in_Mod w h).1 (in_Mod w h).2, by decide, rfl, rfl, rfl, Or.inl (gk_5 (List.mem_of_getElem? (i := 236) rfl) rfl)⟩
set_option maxRecDepth 100000 in
theorem ff_Mod_76 : ∃ (T : u_T) (N : Nat), cls[12]? = some ("CookedLawModel", T, N) ∧ (∀ w ∈ u_ws "CookedLawModel" T N, w ∈ gtb) ∧ 33 < N ∧ (fks 12)[33]? = some (1, 33) ∧ (T 33).1 = "CookedLawModel" ∧ (T 33).2.2.2 = true ∧ Cond.fieldLink "CookedLawModel" 76 "CookedLawModel" (T 33).2.1 (T 33).2.2.1 ∈ gtb := ⟨T_Mod, 71, rfl, fun w h => gtb_of (in_Mod w h).1 (in_Mod w h).2, by decide, rfl, rfl, rfl, (gk_5 (List.mem_of_getElem? (i := 236) rfl) rfl)⟩
set_option maxRecDepth 100000 in
theorem fo_Mod_79 : fOk "CookedLawModel" 79 12 34 1 true := ⟨"CookedLawModel", T_Mod, 71, rfl, fun w h => gtb_of (in_Mod w h).1 (in_Mod w h).2, by decide, rfl, rfl, rfl, Or.inl (gk_5 (List.mem_of_getElem? (i := 237) rfl) rfl)⟩
set_option maxRecDepth 100000 in
theorem ff_Mod_79 : ∃ (T : u_T) (N : Nat), cls[12]? = some ("CookedLawModel", T, N) ∧ (∀ w ∈ u_ws "CookedLawModel" T N, w ∈ gtb) ∧ 34 < N ∧ (fks 12)[34]? = some (1, 34) ∧ (T 34).1 = "CookedLawModel" ∧ (T 34).2.2.2 = true ∧ Cond.fieldLink "CookedLawModel" 79 "CookedLawModel" (T 34).2.1 (T 34).2.2.1 ∈ gtb := ⟨T_Mod, 71, rfl, fun w h => gtb_of (in_Mod w h).1 (in_Mod w h).2, by decide, rfl, rfl, rfl, (gk_5 (List.mem_of_getElem? (i := 237) rfl) rfl)⟩
set_option maxRecDepth 100000 in
theorem fo_Mod_82 : fOk "CookedLawModel" 82 12 35 1 true := ⟨"CookedLawModel", T_Mod, 71, rfl, fun w h => gtb_of (in_Mod w h).1 (in_Mod w h).2, by decide, rfl, rfl, rfl, Or.inl (gk_5 (List.mem_of_getElem? (i := 238) rfl) rfl)⟩
set_option maxRecDepth 100000 in
theorem ff_Mod_82 : ∃ (T : u_T) (N : Nat), cls[12]? = some ("CookedLawModel", T, N) ∧ (∀ w ∈ u_ws "CookedLawModel" T N, w ∈ gtb) ∧ 35 < N ∧ (fks 12)[35]? = some (1, 35) ∧ (T 35).1 = "CookedLawModel" ∧ (T 35).2.2.2 = true ∧ Cond.fieldLink "CookedLawModel" 82 "CookedLawModel" (T 35).2.1 (T 35).2.2.1 ∈ gtb := ⟨T_Mod, 71, rfl, fun w h => gtb_of (in_Mod w h).1 (in_Mod w h).2, by decide, rfl, rfl, rfl, (gk_5 (List.mem_of_getElem? (i := 238) rfl) rfl)⟩
set_option maxRecDepth 100000 in
theorem fo_Mod_85 : fOk "CookedLawModel" 85 12 36 1 true := ⟨"CookedLawModel", T_Mod, 71, rfl, fun w h => gtb_of (in_Mod w h).1 (in_Mod w h).2, by decide, rfl, rfl, rfl, Or.inl (gk_5 (List.mem_of_getElem? (i := 239) rfl) rfl)⟩
set_option maxRecDepth 100000 in
theorem ff_Mod_85 : ∃ (T : u_T) (N : Nat), cls[12]? = some ("CookedLawModel", T, N) ∧ (∀ w ∈ u_ws "CookedLawModel" T N, w ∈ gtb) ∧ 36 < N ∧ (fks 12)[36]? = some (1, 36) ∧ (T 36).1 = "CookedLawModel" ∧ (T 36).2.2.2 = true ∧ Cond.fieldLink "CookedLawModel" 85 "CookedLawModel" (T 36).2.1 (T 36).2.2.1 ∈ gtb := ⟨T_Mod, 71, rfl, fun w h => gtb_of (in_Mod w h).1 (in_Mod w h).2, by decide, rfl, rfl, rfl, (gk_5 (List.mem_of_getElem? (i := 239) rfl) rfl)⟩
set_option maxRecDepth 100000 in
theorem fo_Mod_88 : fOk "CookedLawModel" 88 12 37 1 true := ⟨"CookedLawModel", T_Mod, 71, rfl, fun w h => gtb_of (in_Mod w h).1 (in_Mod w h).2, by decide, rfl, rfl, rfl, Or.inl (gk_6 (List.mem_of_getElem? (i := 0) rfl) rfl)⟩
set_option maxRecDepth 100000 in
theorem ff_Mod_88 : ∃ (T : u_T) (N : Nat), cls[12]? = some ("CookedLawModel", T, N) ∧ (∀ w ∈ u_ws "CookedLawModel" T N, w ∈ gtb) ∧ 37 < N ∧ (fks 12)[37]? = some (1, 37) ∧ (T 37).1 = "CookedLawModel" ∧ (T 37).2.2.2 = true ∧ Cond.fieldLink "CookedLawModel" 88 "CookedLawModel" (T 37).2.1 (T 37).2.2.1 ∈ gtb := ⟨T_Mod, 71, rfl, fun w h => gtb_of (in_Mod w h).1 (in_Mod w h).2, by decide, rfl, rfl, rfl, (gk_6 (List.mem_of_getElem? (i := 0) rfl) rfl)⟩
set_option maxRecDepth 100000 in
theorem fo_Mod_91 : fOk "CookedLawModel" 91 12 39 1 true := ⟨"CookedLawModel", T_Mod, 71, rfl, fun w h => gtb_of (in_Mod w h).1 (in_Mod w h).2, by decide, rfl, rfl, rfl, Or.inl (gk_6 (List.mem_of_getElem? (i := 2) rfl) rfl)⟩
set_option maxRecDepth 100000 in
theorem ff_Mod_91 : ∃ (T : u_T) (N : Nat), cls[12]? = some ("CookedLawModel", T, N) ∧ (∀ w ∈ u_ws "CookedLawModel" T N, w ∈ gtb) ∧ 39 < N ∧ (fks 12)[39]? = some (1, 39) ∧ (T 39).1 = "CookedLawModel" ∧ (T 39).2.2.2 = true ∧ Cond.fieldLink "CookedLawModel" 91 "CookedLawModel" (T 39).2.1 (T 39).2.2.1 ∈ gtb := ⟨T_Mod, 71, rfl, fun w h => gtb_of (in_Mod w h).1 (in_Mod w h).2, by decide, rfl, rfl, rfl, (gk_6 (List.mem_of_getElem? (i := 2) rfl) rfl)⟩
set_option maxRecDepth 100000 in
theorem fo_Mod_95 : fOk "CookedLawModel" 95 12 40 1 true := ⟨"CookedLawModel", T_Mod, 71, rfl, fun w h => gtb_of (in_Mod w h).1 (in_Mod w h).2, by decide, rfl, rfl, rfl, Or.inl (gk_6 (List.mem_of_getElem? (i := 3) rfl) rfl)⟩
set_option maxRecDepth 100000 in
theorem ff_Mod_95 : ∃ (T : u_T) (N : Nat), cls[12]? = some ("CookedLawModel", T, N) ∧ (∀ w ∈ u_ws "CookedLawModel" T N, w ∈ gtb) ∧ 40 < N ∧ (fks 12)[40]? = some (1, 40) ∧ (T 40).1 = "CookedLawModel" ∧ (T 40).2.2.2 = true ∧ Cond.fieldLink "CookedLawModel" 95 "CookedLawModel" (T 40).2.1 (T 40).2.2.1 ∈ gtb := ⟨T_Mod, 71, rfl, fun w h => gtb_of (in_Mod w h).1 (in_Mod w h).2, by decide, rfl, rfl, rfl, (gk_6 (List.mem_of_getElem? (i := 3) rfl) rfl)⟩
set_option maxRecDepth 100000 in
theorem fo_Mod_98 : fOk "CookedLawModel" 98 12 41 1 true := ⟨"CookedLawModel", T_Mod, 71, rfl, fun w h => gtb_of (in_Mod w h).1 (in_Mod w h).2, by decide, rfl, rfl, rfl, Or.inl (gk_6 (List.mem_of_getElem? (i := 4) rfl) rfl)⟩
set_option maxRecDepth 100000 in
theorem ff_Mod_98 : ∃ (T : u_T) (N : Nat), cls[12]? = some ("CookedLawModel", T, N) ∧ (∀ w ∈ u_ws "CookedLawModel" T N, w ∈ gtb) ∧ 41 < N ∧ (fks 12)[41]? = some (1, 41) ∧ (T 41).1 = "CookedLawModel" ∧ (T 41).2.2.2 = true ∧ Cond.fieldLink "CookedLawModel" 98 "CookedLawModel" (T 41).2.1 (T 41).2.2.1 ∈ gtb := ⟨T_Mod, 71, rfl, fun w h => gtb_of (in_Mod w h).1 (in_Mod w h).2, by decide, rfl, rfl, rfl, (gk_6 (List.mem_of_getElem? (i := 4) rfl) rfl)⟩
set_option maxRecDepth 100000 in
theorem fo_Mod_101 : fOk "CookedLawModel" 101 12 42 1 true := ⟨"CookedLawModel", T_Mod, 71, rfl, fun w h => gtb_of (in_Mod w h).1 (in_Mod w h).2, by decide, rfl, rfl, rfl, Or.inl (gk_6 (List.mem_of_getElem? (i := 5) rfl) rfl)⟩
set_option maxRecDepth 100000 in
theorem ff_Mod_101 : ∃ (T : u_T) (N : Nat), cls[12]? = some ("CookedLawModel", T, N) ∧ (∀ w ∈ u_ws "CookedLawModel" T N, w ∈ gtb) ∧ 42 < N ∧ (fks 12)[42]? = some (1, 42) ∧ (T 42).1 = "CookedLawModel" ∧ (T 42).2.2.2 = true ∧ Cond.fieldLink "CookedLawModel" 101 "CookedLawModel" (T 42).2.1 (T 42).2.2.1 ∈ gtb := ⟨T_Mod, 71, rfl, fun w h => gtb_of (in_Mod w h).1 (in_Mod w h).2, by decide, rfl, rfl, rfl, (gk_6 (List.mem_of_getElem? (i := 5) rfl) rfl)⟩
set_option maxRecDepth 100000 in
theorem fo_Mod_104 : fOk "CookedLawModel" 104 12 43 1 true := ⟨"CookedLawModel", T_Mod, 71, rfl, fun w h => gtb_of (in_Mod w h).1 (in_Mod w h).2, by decide, rfl, rfl, rfl, Or.inl (gk_6 (List.mem_of_getElem? (i := 6) rfl) rfl)⟩
set_option maxRecDepth 100000 in
theorem ff_Mod_104 : ∃ (T : u_T) (N : Nat), cls[12]? = some ("CookedLawModel", T, N) ∧ (∀ w ∈ u_ws "CookedLawModel" T N, w ∈ gtb) ∧ 43 < N ∧ (fks 12)[43]? = some (1, 43) ∧ (T 43).1 = "CookedLawModel" ∧ (T 43).2.2.2 = true ∧ Cond.fieldLink "CookedLawModel" 104 "CookedLawModel" (T 43).2.1 (T 43).2.2.1 ∈ gtb := ⟨T_Mod, 71, rfl, fun w h => gtb_of (in_Mod w h).1 (in_Mod w h).2, by decide, rfl, rfl, rfl, (gk_6 (List.mem_of_getElem? (i := 6) rfl) rfl)⟩
set_option maxRecDepth 100000 in
theorem fo_Mod_107 : fOk "CookedLawModel" 107 12 45 1 true := ⟨"CookedLawModel", T_Mod, 71, rfl, fun w h => gtb_of (in_Mod w h).1 (in_Mod w h).2, by decide, rfl, rfl, rfl, Or.inl (gk_6 (List.mem_of_getElem? (i := 8) rfl) rfl)⟩
set_option maxRecDepth 100000 in
theorem ff_Mod_107 : ∃ (T : u_T) (N : Nat), cls[12]? = some ("CookedLawModel", T, N) ∧ (∀ w ∈ u_ws "CookedLawModel" T N, w ∈ gtb) ∧ 45 < N ∧ (fks 12)[45]? = some (1, 45) ∧ (T 45).1 = "CookedLawModel" ∧ (T 45).2.2.2 = true ∧ Cond.fieldLink "CookedLawModel" 107 "CookedLawModel" (T 45).2.1 (T 45).2.2.1 ∈ gtb := ⟨T_Mod, 71, rfl, fun w h => gtb_of (in_Mod w h).1 (in_Mod w h).2, by decide, rfl, rfl, rfl, (gk_6 (List.mem_of_getElem? (i := 8) rfl) rfl)⟩
set_option maxRecDepth 100000 in
theorem fo_Mod_110 : fOk "CookedLawModel" 110 12 46 1 true := ⟨"CookedLawModel", T_Mod, 71, rfl, fun w h => gtb_of (in_Mod w h).1 (in_Mod w h).2, by decide, rfl, rfl, rfl, Or.inl (gk_6 (List.mem_of_getElem? (i := 9) rfl) rfl)⟩
set_option maxRecDepth 100000 in
theorem ff_Mod_110 : ∃ (T : u_T) (N : Nat), cls[12]? = some ("CookedLawModel", T, N) ∧ (∀ w ∈ u_ws "CookedLawModel" T N, w ∈ gtb) ∧ 46 < N ∧ (fks 12)[46]? = some (1, 46) ∧ (T 46).1 = "CookedLawModel" ∧ (T 46).2.2.2 = true ∧ Cond.fieldLink "CookedLawModel" 110 "CookedLawModel" (T 46).2.1 (T 46).2.2.1 ∈ gtb := ⟨T_Mod, 71, rfl, fun w h => gtb_of (in_Mod w h).1 (in_Mod w h).2, by decide, rfl, rfl, rfl, (gk_6 (List.mem_of_getElem? (i := 9) rfl) rfl)⟩
set_option maxRecDepth 100000 in
theorem fo_Mod_113 : fOk "CookedLawModel" 113 12 47 1 true := ⟨"CookedLawModel", T_Mod, 71, rfl, fun w h => gtb_of (in_Mod w h).1 (in_Mod w h).2, by decide, rfl, rfl, rfl, Or.inl (gk_6 (List.mem_of_getElem? (i := 10) rfl) rfl)⟩
set_option maxRecDepth 100000 in
theorem ff_Mod_113 : ∃ (T : u_T) (N : Nat), cls[12]? = some ("CookedLawModel", T, N) ∧ (∀ w ∈ u_ws "CookedLawModel" T N, w ∈ gtb) ∧ 47 < N ∧ (fks 12)[47]? = some (1, 47) ∧ (T 47).1 = "CookedLawModel" ∧ (T 47).2.2.2 = true ∧ Cond.fieldLink "CookedLawModel" 113 "CookedLawModel" (T 47).2.1 (T 47).2.2.1 ∈ gtb := ⟨T_Mod, 71, rfl, fun w h => gtb_of (in_Mod w h).1 (in_Mod w h).2, by decide, rfl, rfl, rfl, (gk_6 (List.mem_of_getElem? (i := 10) rfl) rfl)⟩
set_option maxRecDepth 100000 in
theorem fo_Mod_116 : fOk "CookedLawModel" 116 12 49 1 true := ⟨"CookedLawModel", T_Mod, 71, rfl, fun w h => gtb_of (in_Mod w h).1 (in_Mod w h).2, by decide, rfl, rfl, rfl, Or.inl (gk_6 (List.mem_of_getElem? (i := 12) rfl) rfl)⟩
set_option maxRecDepth 100000 in
theorem ff_Mod_116 : ∃ (T : u_T) (N : Nat), cls[12]? = some ("CookedLawModel", T, N) ∧ (∀ w ∈ u_ws "CookedLawModel" T N, w ∈ gtb) ∧ 49 < N ∧ (fks 12)[49]? = some (1, 49) ∧ (T 49).1 = "CookedLawModel" ∧ (T 49).2.2.2 = true ∧ Cond.fieldLink "CookedLawModel" 116 "CookedLawModel" (T 49).2.1 (T 49).2.2.1 ∈ gtb := ⟨T_Mod, 71, rfl, fun w h => gtb_of (in_Mod w h).1 (in_Mod w h).2, by decide, rfl, rfl, rfl, (gk_6 (List.mem_of_getElem? (i := 12) rfl) rfl)⟩
set_option maxRecDepth 100000 in
theorem fo_Mod_119 : fOk "CookedLawModel" 119 12 50 1 true := ⟨"CookedLawModel", T_Mod, 71, rfl, fun w h => gtb_of (in_Mod w h).1 (in_Mod w h).2, by decide, rfl, rfl, rfl, Or.inl (gk_6 (List.mem_of_getElem? (i := 13) rfl) rfl)⟩
set_option maxRecDepth 100000 in
theorem ff_Mod_119 : ∃ (T : u_T) (N : Nat), cls[12]? = some ("CookedLawModel", T, N) ∧ (∀ w ∈ u_ws "CookedLawModel" T N, w ∈ gtb) ∧ 50 < N ∧ (fks 12)[50]? = some (1, 50) ∧ (T 50).1 = "CookedLawModel" ∧ (T 50).2.2.2 = true ∧ Cond.fieldLink "CookedLawModel" 119 "CookedLawModel" (T 50).2.1 (T 50).2.2.1 ∈ gtb := ⟨T_Mod, 71, rfl, fun w h => gtb_of (in_Mod w h).1 (in_Mod w h).2, by decide, rfl, rfl, rfl, (gk_6 (List.mem_of_getElem? (i := 13) rfl) rfl)⟩
set_option maxRecDepth 100000 in
theorem fo_Mod_122 : fOk "CookedLawModel" 122 12 52 1 true := ⟨"CookedLawModel", T_Mod, 71, rfl, fun w h => gtb_of (in_Mod w h).1 (in_Mod w h).2, by decide, rfl, rfl, rfl, Or.inl (gk_6 (List.mem_of_getElem? (i := 15) rfl) rfl)⟩
set_option maxRecDepth 100000 in
theorem ff_Mod_122 : ∃ (T : u_T) (N : Nat), cls[12]? = some ("CookedLawModel", T, N) ∧ (∀ w ∈ u_ws "CookedLawModel" T N, w ∈ gtb) ∧ 52 < N ∧ (fks 12)[52]? = some (1, 52) ∧ (T 52).1 = "CookedLawModel" ∧ (T 52).2.2.2 = true ∧ Cond.fieldLink "CookedLawModel" 122 "CookedLawModel" (T 52).2.1 (T 52).2.2.1 ∈ gtb := ⟨T_Mod, 71, rfl, fun w h => gtb_of (in_Mod w h).1 (in_Mod w h).2, by decide, rfl, rfl, rfl, (gk_6 (List.mem_of_getElem? (i := 15) rfl) rfl)⟩
set_option maxRecDepth 100000 in
theorem fo_Mod_125 : fOk "CookedLawModel" 125 12 53 1 true := ⟨"CookedLawModel", T_Mod, 71, rfl, fun w h => gtb_of (in_Mod w h).1 (in_Mod w h).2, by decide, rfl, rfl, rfl, Or.inl (gk_6 (List.mem_of_getElem? (i := 16) rfl) rfl)⟩
set_option maxRecDepth 100000 in
theorem ff_Mod_125 : ∃ (T : u_T) (N : Nat), cls[12]? = some ("CookedLawModel", T, N) ∧ (∀ w ∈ u_ws "CookedLawModel" T N, w ∈ gtb) ∧ 53 < N ∧ (fks 12)[53]? = some (1, 53) ∧ (T 53).1 = "CookedLawModel" ∧ (T 53).2.2.2 = true ∧ Cond.fieldLink "CookedLawModel" 125 "CookedLawModel" (T 53).2.1 (T 53).2.2.1 ∈ gtb := ⟨T_Mod, 71, rfl, fun w h => gtb_of (in_Mod w h).1 (in_Mod w h).2, by decide, rfl, rfl, rfl, (gk_6 (List.mem_of_getElem? (i := 16) rfl) rfl)⟩
set_option maxRecDepth 100000 in
theorem fo_Mod_128 : fOk "CookedLawModel" 128 12 55 1 true := ⟨"CookedLawModel", T_Mod, 71, rfl, fun w h => gtb_of (in_Mod w h).1 (in_Mod w h).2, by decide, rfl, rfl, rfl, Or.inl (gk_6 (List.mem_of_getElem? (i := 18) rfl) rfl)⟩
set_option maxRecDepth 100000 in
theorem ff_Mod_128 : ∃ (T : u_T) (N : Nat), cls[12]? = some ("CookedLawModel", T, N) ∧ (∀ w ∈ u_ws "CookedLawModel" T N, w ∈ gtb) ∧ 55 < N ∧ (fks 12)[55]? = some (1, 55) ∧ (T 55).1 = "CookedLawModel" ∧ (T 55).2.2.2 = true ∧ Cond.fieldLink "CookedLawModel" 128 "CookedLawModel" (T 55).2.1 (T 55).2.2.1 ∈ gtb := ⟨T_Mod, 71, rfl, fun w h => gtb_of (in_Mod w h).1 (in_Mod w h).2, by decide, rfl, rfl, rfl, (gk_6 (List.mem_of_getElem? (i := 18) rfl) rfl)⟩
set_option maxRecDepth 100000 in
theorem fo_Mod_131 : fOk "CookedLawModel" 131 12 56 1 true := ⟨"CookedLawModel", T_Mod, 71, rfl, fun w h => gtb_of (in_Mod w h).1 (in_Mod w h).2, by decide, rfl, rfl, rfl, Or.inl (gk_6 (List.mem_of_getElem? (i := 19) rfl) rfl)⟩
set_option maxRecDepth 100000 in
theorem ff_Mod_131 : ∃ (T : u_T) (N : Nat), cls[12]? = some ("CookedLawModel", T, N) ∧ (∀ w ∈ u_ws "CookedLawModel" T N, w ∈ gtb) ∧ 56 < N ∧ (fks 12)[56]? = some (1, 56) ∧ (T 56).1 = "CookedLawModel" ∧ (T 56).2.2.2 = true ∧ Cond.fieldLink "CookedLawModel" 131 "CookedLawModel" (T 56).2.1 (T 56).2.2.1 ∈ gtb := ⟨T_Mod, 71, rfl, fun w h => gtb_of (in_Mod w h).1 (in_Mod w h).2, by decide, rfl, rfl, rfl, (gk_6 (List.mem_of_getElem? (i := 19) rfl) rfl)⟩
set_option maxRecDepth 100000 in
theorem fo_Mod_134 : fOk "CookedLawModel" 134 12 58 1 true := ⟨"CookedLawModel", T_Mod, 71, rfl, fun w h => gtb_of (in_Mod w h).1 (in_Mod w h).2, by decide, rfl, rfl, rfl, Or.inl (gk_6 (List.mem_of_getElem? (i := 21) rfl) rfl)⟩
set_option maxRecDepth 100000 in
theorem ff_Mod_134 : ∃ (T : u_T) (N : Nat), cls[12]? = some ("CookedLawModel", T, N) ∧ (∀ w ∈ u_ws "CookedLawModel" T N, w ∈ gtb) ∧ 58 < N ∧ (fks 12)[58]? = some (1, 58) ∧ (T 58).1 = "CookedLawModel" ∧ (T 58).2.2.2 = true ∧ Cond.fieldLink "CookedLawModel" 134 "CookedLawModel" (T 58).2.1 (T 58).2.2.1 ∈ gtb := ⟨T_Mod, 71, rfl, fun w h => gtb_of (in_Mod w h).1 (in_Mod w h).2, by decide, rfl, rfl, rfl, (gk_6 (List.mem_of_getElem? (i := 21) rfl) rfl)⟩
set_option maxRecDepth 100000 in
theorem fo_Mod_137 : fOk "CookedLawModel" 137 12 65 1 true := ⟨"CookedLawModel", T_Mod, 71, rfl, fun w h => gtb_of (in_Mod w h).1 (in_Mod w h).2, by decide, rfl, rfl, rfl, Or.inl (gk_6 (List.mem_of_getElem? (i := 28) rfl) rfl)⟩
set_option maxRecDepth 100000 in
theorem ff_Mod_137 : ∃ (T : u_T) (N : Nat), cls[12]? = some ("CookedLawModel", T, N) ∧ (∀ w ∈ u_ws "CookedLawModel" T N, w ∈ gtb) ∧ 65 < N ∧ (fks 12)[65]? = some (1, 65) ∧ (T 65).1 = "CookedLawModel" ∧ (T 65).2.2.2 = true ∧ Cond.fieldLink "CookedLawModel" 137 "CookedLawModel" (T 65).2.1 (T 65).2.2.1 ∈ gtb := ⟨T_Mod, 71, rfl, fun w h => gtb_of (in_Mod w h).1 (in_Mod w h).2, by decide, rfl, rfl, rfl, (gk_6 (List.mem_of_getElem? (i := 28) rfl) rfl)⟩
set_option maxRecDepth 100000 in
theorem fo_Mod_140 : fOk "CookedLawModel" 140 12 66 1 true := ⟨"CookedLawModel", T_Mod, 71, rfl, fun w h => gtb_of (in_Mod w h).1 (in_Mod w h).2, by decide, rfl, rfl, rfl, Or.inl (gk_6 (List.mem_of_getElem? (i := 29) rfl) rfl)⟩
set_option maxRecDepth 100000 in
theorem ff_Mod_140 : ∃ (T : u_T) (N : Nat), cls[12]? = some ("CookedLawModel", T, N) ∧ (∀ w ∈ u_ws "CookedLawModel" T N, w ∈ gtb) ∧ 66 < N ∧ (fks 12)[66]? = some (1, 66) ∧ (T 66).1 = "CookedLawModel" ∧ (T 66).2.2.2 = true ∧ Cond.fieldLink "CookedLawModel" 140 "CookedLawModel" (T 66).2.1 (T 66).2.2.1 ∈ gtb := ⟨T_Mod, 71, rfl, fun w h => gtb_of (in_Mod w h).1 (in_Mod w h).2, by decide, rfl, rfl, rfl, (gk_6 (List.mem_of_getElem? (i := 29) rfl) rfl)⟩
set_option maxRecDepth 100000 in
theorem fo_Mod_143 : fOk "CookedLawModel" 143 12 67 1 true := ⟨"CookedLawModel", T_Mod, 71, rfl, fun w h => gtb_of (in_Mod w h).1 (in_Mod w h).2, by decide, rfl, rfl, rfl, Or.inl (gk_6 (List.mem_of_getElem? (i := 30) rfl) rfl)⟩
set_option maxRecDepth 100000 in
theorem ff_Mod_143 : ∃ (T : u_T) (N : Nat), cls[12]? = some ("CookedLawModel", T, N) ∧ (∀ w ∈ u_ws "CookedLawModel" T N, w ∈ gtb) ∧ 67 < N ∧ (fks 12)[67]? = some (1, 67) ∧ (T 67).1 = "CookedLawModel" ∧ (T 67).2.2.2 = true ∧ Cond.fieldLink "CookedLawModel" 143 "CookedLawModel" (T 67).2.1 (T 67).2.2.1 ∈ gtb := ⟨T_Mod, 71, rfl, fun w h => gtb_of (in_Mod w h).1 (in_Mod w h).2, by decide, rfl, rfl, rfl, (gk_6 (List.mem_of_getElem? (i := 30) rfl) rfl)⟩
set_option maxRecDepth 100000 in
theorem fo_Mod_146 : fOk "CookedLawModel" 146 12 68 1 true := ⟨"CookedLawModel", T_Mod, 71, rfl, fun w h => gtb_of (in_Mod w h).1 (in_Mod w h).2, by decide, rfl, rfl, rfl, Or.inl (gk_6 (List.mem_of_getElem? (i := 31) rfl) rfl)⟩
set_option maxRecDepth 100000 in
theorem ff_Mod_146 : ∃ (T : u_T) (N : Nat), cls[12]? = some ("CookedLawModel", T, N) ∧ (∀ w ∈ u_ws "CookedLawModel" T N, w ∈ gtb) ∧ 68 < N ∧ (fks 12)[68]? = some (1, 68) ∧ (T 68).1 = "CookedLawModel" ∧ (T 68).2.2.2 = true ∧ Cond.fieldLink "CookedLawModel" 146 "CookedLawModel" (T 68).2.1 (T 68).2.2.1 ∈ gtb := ⟨T_Mod, 71, rfl, fun w h => gtb_of (in_Mod w h).1 (in_Mod w h).2, by decide, rfl, rfl, rfl, (gk_6 (List.mem_of_getElem? (i := 31) rfl) rfl)⟩
set_option maxRecDepth 100000 in
theorem fo_Mod_149 : fOk "CookedLawModel" 149 12 69 1 true := ⟨"CookedLawModel", T_Mod, 71, rfl, fun w h => gtb_of (in_Mod w h).1 (in_Mod w h).2, by decide, rfl, rfl, rfl, Or.inl (gk_6 (List.mem_of_getElem? (i := 32) rfl) rfl)⟩
set_option maxRecDepth 100000 in
theorem ff_Mod_149 : ∃ (T : u_T) (N : Nat), cls[12]? = some ("CookedLawModel", T, N) ∧ (∀ w ∈ u_ws "CookedLawModel" T N, w ∈ gtb) ∧ 69 < N ∧ (fks 12)[69]? = some (1, 69) ∧ (T 69).1 = "CookedLawModel" ∧ (T 69).2.2.2 = true ∧ Cond.fieldLink "CookedLawModel" 149 "CookedLawModel" (T 69).2.1 (T 69).2.2.1 ∈ gtb := ⟨T_Mod, 71, rfl, fun w h => gtb_of (in_Mod w h).1 (in_Mod w h).2, by decide, rfl, rfl, rfl, (gk_6 (List.mem_of_getElem? (i := 32) rfl) rfl)⟩
set_option maxRecDepth 100000 in
theorem fo_Mod_152 : fOk "CookedLawModel" 152 12 70 1 true := ⟨"CookedLawModel", T_Mod, 71, rfl, fun w h => gtb_of (in_Mod w h).1 (in_Mod w h).2, by decide, rfl, rfl, rfl, Or.inl (gk_6 (List.mem_of_getElem? (i := 33) rfl) rfl)⟩
set_option maxRecDepth 100000 in
theorem ff_Mod_152 : ∃ (T : u_T) (N : Nat), cls[12]? = some ("CookedLawModel", T, N) ∧ (∀ w ∈ u_ws "CookedLawModel" T N, w ∈ gtb) ∧ 70 < N ∧ (fks 12)[70]? = some (1, 70) ∧ (T 70).1 = "CookedLawModel" ∧ (T 70).2.2.2 = true ∧ Cond.fieldLink "CookedLawModel" 152 "CookedLawModel" (T 70).2.1 (T 70).2.2.1 ∈ gtb := ⟨T_Mod, 71, rfl, fun w h => gtb_of (in_Mod w h).1 (in_Mod w h).2, by decide, rfl, rfl, rfl, (gk_6 (List.mem_of_getElem? (i := 33) rfl) rfl)⟩
set_option maxRecDepth 100000 in
theorem fo_Mod_169 : fOk "CookedLawModel" 169 12 2 0 false := ⟨"CookedLawModel", T_Mod, 71, rfl, fun w h => gtb_of (in_Mod w h).1 (in_Mod w h).2, by decide, rfl, rfl, rfl, Or.inl (gk_5 (List.mem_of_getElem? (i := 205) rfl) rfl)⟩
set_option maxRecDepth 100000 in
theorem fo_Mod_175 : fOk "CookedLawModel" 175 12 4 0 false := ⟨"CookedLawModel", T_Mod, 71, rfl, fun w h => gtb_of (in_Mod w h).1 (in_Mod w h).2, by decide, rfl, rfl, rfl, Or.inl (gk_5 (List.mem_of_getElem? (i := 207) rfl) rfl)⟩
set_option maxRecDepth 100000 in
theorem fo_Mod_184 : fOk "CookedLawModel" 184 12 10 0 false := ⟨"CookedLawModel", T_Mod, 71, rfl, fun w h => gtb_of (in_Mod w h).1 (in_Mod w h).2, by decide, rfl, rfl, rfl, Or.inl (gk_5 (List.mem_of_getElem? (i := 213) rfl) rfl)⟩
set_option maxRecDepth 100000 in
theorem fo_Mod_206 : fOk "CookedLawModel" 206 12 13 0 false := ⟨"CookedLawModel", T_Mod, 71, rfl, fun w h => gtb_of (in_Mod w h).1 (in_Mod w h).2, by decide, rfl, rfl, rfl, Or.inl (gk_5 (List.mem_of_getElem? (i := 216) rfl) rfl)⟩
set_option maxRecDepth 100000 in
theorem fo_Mod_209 : fOk "CookedLawModel" 209 12 11 0 false := ⟨"CookedLawModel", T_Mod, 71, rfl, fun w h => gtb_of (in_Mod w h).1 (in_Mod w h).2, by decide, rfl, rfl, rfl, Or.inl (gk_5 (List.mem_of_getElem? (i := 214) rfl) rfl)⟩
set_option maxRecDepth 100000 in
theorem fo_Mod_212 : fOk "CookedLawModel" 212 12 14 0 false := ⟨"CookedLawModel", T_Mod, 71, rfl, fun w h => gtb_of (in_Mod w h).1 (in_Mod w h).2, by decide, rfl, rfl, rfl, Or.inl (gk_5 (List.mem_of_getElem? (i := 217) rfl) rfl)⟩
set_option maxRecDepth 100000 in
theorem fo_Mod_215 : fOk "CookedLawModel" 215 12 15 0 false := ⟨"CookedLawModel", T_Mod, 71, rfl, fun w h => gtb_of (in_Mod w h).1 (in_Mod w h).2, by decide, rfl, rfl, rfl, Or.inl (gk_5 (List.mem_of_getElem? (i := 218) rfl) rfl)⟩
set_option maxRecDepth 100000 in
theorem fo_Mod_218 : fOk "CookedLawModel" 218 12 16 0 false := ⟨"CookedLawModel", T_Mod, 71, rfl, fun w h => gtb_of (in_Mod w h).1 (in_Mod w h).2, by decide, rfl, rfl, rfl, Or.inl (gk_5 (List.mem_of_getElem? (i := 219) rfl) rfl)⟩
set_option maxRecDepth 100000 in
theorem fo_Mod_233 : fOk "CookedLawModel" 233 12 12 0 false := ⟨"CookedLawModel", T_Mod, 71, rfl, fun w h => gtb_of (in_Mod w h).1 (in_Mod w h).2, by decide, rfl, rfl, rfl, Or.inl (gk_5 (List.mem_of_getElem? (i := 215) rfl) rfl)⟩
set_option maxRecDepth 100000 in
theorem fo_Mod_236 : fOk "CookedLawModel" 236 12 18 0 false := ⟨"CookedLawModel", T_Mod, 71, rfl, fun w h => gtb_of (in_Mod w h).1 (in_Mod w h).2, by decide, rfl, rfl, rfl, Or.inl (gk_5 (List.mem_of_getElem? (i := 221) rfl) rfl)⟩
set_option maxRecDepth 100000 in
theorem fo_Mod_239 : fOk "CookedLawModel" 239 12 19 0 false := ⟨"CookedLawModel", T_Mod, 71, rfl, fun w h => gtb_of (in_Mod w h).1 (in_Mod w h).2, by decide, rfl, rfl, rfl, Or.inl (gk_5 (List.mem_of_getElem? (i := 222) rfl) rfl)⟩
set_option maxRecDepth 100000 in
theorem fo_Mod_242 : fOk "CookedLawModel" 242 12 20 0 false := ⟨"CookedLawModel", T_Mod, 71, rfl, fun w h => gtb_of (in_Mod w h).1 (in_Mod w h).2, by decide, rfl, rfl, rfl, Or.inl (gk_5 (List.mem_of_getElem? (i := 223) rfl) rfl)⟩
set_option maxRecDepth 100000 in
theorem fo_Mod_245 : fOk "CookedLawModel" 245 12 38 0 false := ⟨"CookedLawModel", T_Mod, 71, rfl, fun w h => gtb_of (in_Mod w h).1 (in_Mod w h).2, by decide, rfl, rfl, rfl, Or.inl (gk_6 (List.mem_of_getElem? (i := 1) rfl) rfl)⟩
set_option maxRecDepth 100000 in
theorem fo_Mod_248 : fOk "CookedLawModel" 248 12 44 0 false := ⟨"CookedLawModel", T_Mod, 71, rfl, fun w h => gtb_of (in_Mod w h).1 (in_Mod w h).2, by decide, rfl, rfl, rfl, Or.inl (gk_6 (List.mem_of_getElem? (i := 7) rfl) rfl)⟩
set_option maxRecDepth 100000 in
theorem fo_Mod_254 : fOk "CookedLawModel" 254 12 57 0 false := ⟨"CookedLawModel", T_Mod, 71, rfl, fun w h => gtb_of (in_Mod w h).1 (in_Mod w h).2, by decide, rfl, rfl, rfl, Or.inl (gk_6 (List.mem_of_getElem? (i := 20) rfl) rfl)⟩
set_option maxRecDepth 100000 in
theorem fo_Mod_257 : fOk "CookedLawModel" 257 12 64 0 false := ⟨"CookedLawModel", T_Mod, 71, rfl, fun w h => gtb_of (in_Mod w h).1 (in_Mod w h).2, by decide, rfl, rfl, rfl, Or.inl (gk_6 (List.mem_of_getElem? (i := 27) rfl) rfl)⟩
set_option maxRecDepth 100000 in
theorem fo_Mod_299 : fOk "CookedLawModel" 299 12 48 0 false := ⟨"CookedLawModel", T_Mod, 71, rfl, fun w h => gtb_of (in_Mod w h).1 (in_Mod w h).2, by decide, rfl, rfl, rfl, Or.inl (gk_6 (List.mem_of_getElem? (i := 11) rfl) rfl)⟩
set_option maxRecDepth 100000 in
theorem fo_Mod_312 : fOk "CookedLawModel" 312 12 51 2 false := ⟨"CookedLawModel", T_Mod, 71, rfl, fun w h => gtb_of (in_Mod w h).1 (in_Mod w h).2, by decide, rfl, rfl, rfl, Or.inl (gk_6 (List.mem_of_getElem? (i := 14) rfl) rfl)⟩
set_option maxRecDepth 100000 in
theorem fo_Mod_320 : fOk "CookedLawModel" 320 12 54 0 false := ⟨"CookedLawModel", T_Mod, 71, rfl, fun w h => gtb_of (in_Mod w h).1 (in_Mod w h).2, by decide, rfl, rfl, rfl, Or.inl (gk_6 (List.mem_of_getElem? (i := 17) rfl) rfl)⟩
set_option maxRecDepth 100000 in
theorem fo_Mod_404 : fOk "CookedLawModel" 404 12 59 0 false := ⟨"CookedLawModel", T_Mod, 71, rfl, fun w h => gtb_of (in_Mod w h).1 (in_Mod w h).2, by decide, rfl, rfl, rfl, Or.inl (gk_6 (List.mem_of_getElem? (i := 22) rfl) rfl)⟩
set_option maxRecDepth 100000 in
theorem fo_Mod_407 : fOk "CookedLawModel" 407 12 60 0 false := ⟨"CookedLawModel", T_Mod, 71, rfl, fun w h => gtb_of (in_Mod w h).1 (in_Mod w h).2, by decide, rfl, rfl, rfl, Or.inl (gk_6 (List.mem_of_getElem? (i := 23) rfl) rfl)⟩
set_option maxRecDepth 100000 in
theorem fo_Mod_410 : fOk "CookedLawModel" 410 12 61 0 false := ⟨"CookedLawModel", T_Mod, 71, rfl, fun w h => gtb_of (in_Mod w h).1 (in_Mod w h).2, by decide, rfl, rfl, rfl, Or.inl (gk_6 (List.mem_of_getElem? (i := 24) rfl) rfl)⟩
set_option maxRecDepth 100000 in
theorem fo_Mod_413 : fOk "CookedLawModel" 413 12 62 0 false := ⟨"CookedLawModel", T_Mod, 71, rfl, fun w h => gtb_of (in_Mod w h).1 (in_Mod w h).2, by decide, rfl, rfl, rfl, Or.inl (gk_6 (List.mem_of_getElem? (i := 25) rfl) rfl)⟩
set_option maxRecDepth 100000 in
theorem fo_Mod_428 : fOk "CookedLawModel" 428 12 63 0 false := ⟨"CookedLawModel", T_Mod, 71, rfl, fun w h => gtb_of (in_Mod w h).1 (in_Mod w h).2, by decide, rfl, rfl, rfl, Or.inl (gk_6 (List.mem_of_getElem? (i := 26) rfl) rfl)⟩
theorem fj_Main : ∀ (j : Nat) (q : Nat × Nat), (fks 0)[j]? = some q → q.2 = j := by
  have e : ∀ j, j < 12 → ∀ q ∈ (fks 0)[j]?, q.2 = j := by decide +kernel
  intro j q h
  have hj : j < 12 := (List.getElem?_eq_some_iff.mp h).1
  exact e j hj q (by rw [h]; rfl)
theorem po_0_0 (x : Nat) : pOk 0 0 (.ref x) := ⟨"CookedLaw", T_Main, 12, ty_Main, rfl, tyk_Main, nm_Main, rfl, fj_Main, rfl, rfl⟩
theorem po_0_1 (x : Nat) : pOk 0 1 (.ref x) := ⟨"CookedLaw", T_Main, 12, ty_Main, rfl, tyk_Main, nm_Main, rfl, fj_Main, rfl, rfl⟩
theorem po_0_2 (x : Nat) : pOk 0 2 (.ref x) := ⟨"CookedLaw", T_Main, 12, ty_Main, rfl, tyk_Main, nm_Main, rfl, fj_Main, rfl, rfl⟩
theorem po_0_3 (x : Nat) : pOk 0 3 (.ref x) := ⟨"CookedLaw", T_Main, 12, ty_Main, rfl, tyk_Main, nm_Main, rfl, fj_Main, rfl, rfl⟩
theorem po_0_4 (x : Nat) : pOk 0 4 (.ref x) := ⟨"CookedLaw", T_Main, 12, ty_Main, rfl, tyk_Main, nm_Main, rfl, fj_Main, rfl, rfl⟩
theorem po_0_5 (x : Nat) : pOk 0 5 (.ref x) := ⟨"CookedLaw", T_Main, 12, ty_Main, rfl, tyk_Main, nm_Main, rfl, fj_Main, rfl, rfl⟩
theorem po_0_6 (x : Nat) : pOk 0 6 (.ref x) := ⟨"CookedLaw", T_Main, 12, ty_Main, rfl, tyk_Main, nm_Main, rfl, fj_Main, rfl, rfl⟩
theorem po_0_7 (x : Nat) : pOk 0 7 (.ref x) := ⟨"CookedLaw", T_Main, 12, ty_Main, rfl, tyk_Main, nm_Main, rfl, fj_Main, rfl, rfl⟩
theorem po_0_8 (x : Nat) : pOk 0 8 (.ref x) := ⟨"CookedLaw", T_Main, 12, ty_Main, rfl, tyk_Main, nm_Main, rfl, fj_Main, rfl, rfl⟩
theorem po_0_9 (x : Nat) : pOk 0 9 (.ref x) := ⟨"CookedLaw", T_Main, 12, ty_Main, rfl, tyk_Main, nm_Main, rfl, fj_Main, rfl, rfl⟩
theorem po_0_10 (x : Nat) : pOk 0 10 (.ref x) := ⟨"CookedLaw", T_Main, 12, ty_Main, rfl, tyk_Main, nm_Main, rfl, fj_Main, rfl, rfl⟩
theorem po_0_11 (x : Int32) : pOk 0 11 (.int x) := ⟨"CookedLaw", T_Main, 12, ty_Main, rfl, tyk_Main, nm_Main, rfl, fj_Main, rfl, rfl⟩
theorem fj_Tape : ∀ (j : Nat) (q : Nat × Nat), (fks 1)[j]? = some q → q.2 = j := by
  have e : ∀ j, j < 2 → ∀ q ∈ (fks 1)[j]?, q.2 = j := by decide +kernel
  intro j q h
  have hj : j < 2 := (List.getElem?_eq_some_iff.mp h).1
  exact e j hj q (by rw [h]; rfl)
theorem po_1_0 (x : Nat) : pOk 1 0 (.ref x) := ⟨"CookedLaw$Tape", T_Tape, 2, ty_Tape, rfl, tyk_Tape, nm_Tape, rfl, fj_Tape, rfl, rfl⟩
theorem po_1_1 (x : Int32) : pOk 1 1 (.int x) := ⟨"CookedLaw$Tape", T_Tape, 2, ty_Tape, rfl, tyk_Tape, nm_Tape, rfl, fj_Tape, rfl, rfl⟩
theorem fj_Reader : ∀ (j : Nat) (q : Nat × Nat), (fks 2)[j]? = some q → q.2 = j := by
  have e : ∀ j, j < 12 → ∀ q ∈ (fks 2)[j]?, q.2 = j := by decide +kernel
  intro j q h
  have hj : j < 12 := (List.getElem?_eq_some_iff.mp h).1
  exact e j hj q (by rw [h]; rfl)
theorem po_2_0 (x : Nat) : pOk 2 0 (.ref x) := ⟨"CookedLaw$Reader", T_Reader, 12, ty_Reader, rfl, tyk_Reader, nm_Reader, rfl, fj_Reader, rfl, rfl⟩
theorem po_2_1 (x : Int32) : pOk 2 1 (.int x) := ⟨"CookedLaw$Reader", T_Reader, 12, ty_Reader, rfl, tyk_Reader, nm_Reader, rfl, fj_Reader, rfl, rfl⟩
theorem po_2_2 (x : Int32) : pOk 2 2 (.int x) := ⟨"CookedLaw$Reader", T_Reader, 12, ty_Reader, rfl, tyk_Reader, nm_Reader, rfl, fj_Reader, rfl, rfl⟩
theorem po_2_3 (x : Int32) : pOk 2 3 (.int x) := ⟨"CookedLaw$Reader", T_Reader, 12, ty_Reader, rfl, tyk_Reader, nm_Reader, rfl, fj_Reader, rfl, rfl⟩
theorem po_2_4 (x : Int32) : pOk 2 4 (.int x) := ⟨"CookedLaw$Reader", T_Reader, 12, ty_Reader, rfl, tyk_Reader, nm_Reader, rfl, fj_Reader, rfl, rfl⟩
theorem po_2_5 (x : Int32) : pOk 2 5 (.int x) := ⟨"CookedLaw$Reader", T_Reader, 12, ty_Reader, rfl, tyk_Reader, nm_Reader, rfl, fj_Reader, rfl, rfl⟩
theorem po_2_6 (x : Nat) : pOk 2 6 (.ref x) := ⟨"CookedLaw$Reader", T_Reader, 12, ty_Reader, rfl, tyk_Reader, nm_Reader, rfl, fj_Reader, rfl, rfl⟩
theorem po_2_7 (x : Nat) : pOk 2 7 (.ref x) := ⟨"CookedLaw$Reader", T_Reader, 12, ty_Reader, rfl, tyk_Reader, nm_Reader, rfl, fj_Reader, rfl, rfl⟩
theorem po_2_8 (x : Int32) : pOk 2 8 (.int x) := ⟨"CookedLaw$Reader", T_Reader, 12, ty_Reader, rfl, tyk_Reader, nm_Reader, rfl, fj_Reader, rfl, rfl⟩
theorem po_2_9 (x : Nat) : pOk 2 9 (.ref x) := ⟨"CookedLaw$Reader", T_Reader, 12, ty_Reader, rfl, tyk_Reader, nm_Reader, rfl, fj_Reader, rfl, rfl⟩
theorem po_2_10 (x : Int32) : pOk 2 10 (.int x) := ⟨"CookedLaw$Reader", T_Reader, 12, ty_Reader, rfl, tyk_Reader, nm_Reader, rfl, fj_Reader, rfl, rfl⟩
theorem po_2_11 (x : Int32) : pOk 2 11 (.int x) := ⟨"CookedLaw$Reader", T_Reader, 12, ty_Reader, rfl, tyk_Reader, nm_Reader, rfl, fj_Reader, rfl, rfl⟩
theorem fj_Tokens : ∀ (j : Nat) (q : Nat × Nat), (fks 3)[j]? = some q → q.2 = j := by
  have e : ∀ j, j < 4 → ∀ q ∈ (fks 3)[j]?, q.2 = j := by decide +kernel
  intro j q h
  have hj : j < 4 := (List.getElem?_eq_some_iff.mp h).1
  exact e j hj q (by rw [h]; rfl)
theorem po_3_0 (x : Nat) : pOk 3 0 (.ref x) := ⟨"CookedLaw$Tokens", T_Tokens, 4, ty_Tokens, rfl, tyk_Tokens, nm_Tokens, rfl, fj_Tokens, rfl, rfl⟩
theorem po_3_1 (x : Nat) : pOk 3 1 (.ref x) := ⟨"CookedLaw$Tokens", T_Tokens, 4, ty_Tokens, rfl, tyk_Tokens, nm_Tokens, rfl, fj_Tokens, rfl, rfl⟩
theorem po_3_2 (x : Nat) : pOk 3 2 (.ref x) := ⟨"CookedLaw$Tokens", T_Tokens, 4, ty_Tokens, rfl, tyk_Tokens, nm_Tokens, rfl, fj_Tokens, rfl, rfl⟩
theorem po_3_3 (x : Nat) : pOk 3 3 (.ref x) := ⟨"CookedLaw$Tokens", T_Tokens, 4, ty_Tokens, rfl, tyk_Tokens, nm_Tokens, rfl, fj_Tokens, rfl, rfl⟩
theorem fj_Land : ∀ (j : Nat) (q : Nat × Nat), (fks 4)[j]? = some q → q.2 = j := by
  have e : ∀ j, j < 18 → ∀ q ∈ (fks 4)[j]?, q.2 = j := by decide +kernel
  intro j q h
  have hj : j < 18 := (List.getElem?_eq_some_iff.mp h).1
  exact e j hj q (by rw [h]; rfl)
theorem po_4_0 (x : Int32) : pOk 4 0 (.int x) := ⟨"CookedLaw$Land", T_Land, 18, ty_Land, rfl, tyk_Land, nm_Land, rfl, fj_Land, rfl, rfl⟩
theorem po_4_1 (x : Int32) : pOk 4 1 (.int x) := ⟨"CookedLaw$Land", T_Land, 18, ty_Land, rfl, tyk_Land, nm_Land, rfl, fj_Land, rfl, rfl⟩
theorem po_4_2 (x : Int32) : pOk 4 2 (.int x) := ⟨"CookedLaw$Land", T_Land, 18, ty_Land, rfl, tyk_Land, nm_Land, rfl, fj_Land, rfl, rfl⟩
theorem po_4_3 (x : Int32) : pOk 4 3 (.int x) := ⟨"CookedLaw$Land", T_Land, 18, ty_Land, rfl, tyk_Land, nm_Land, rfl, fj_Land, rfl, rfl⟩
theorem po_4_4 (x : Int32) : pOk 4 4 (.int x) := ⟨"CookedLaw$Land", T_Land, 18, ty_Land, rfl, tyk_Land, nm_Land, rfl, fj_Land, rfl, rfl⟩
theorem po_4_5 (x : Nat) : pOk 4 5 (.ref x) := ⟨"CookedLaw$Land", T_Land, 18, ty_Land, rfl, tyk_Land, nm_Land, rfl, fj_Land, rfl, rfl⟩
theorem po_4_6 (x : Nat) : pOk 4 6 (.ref x) := ⟨"CookedLaw$Land", T_Land, 18, ty_Land, rfl, tyk_Land, nm_Land, rfl, fj_Land, rfl, rfl⟩
theorem po_4_7 (x : Nat) : pOk 4 7 (.ref x) := ⟨"CookedLaw$Land", T_Land, 18, ty_Land, rfl, tyk_Land, nm_Land, rfl, fj_Land, rfl, rfl⟩
theorem po_4_8 (x : Nat) : pOk 4 8 (.ref x) := ⟨"CookedLaw$Land", T_Land, 18, ty_Land, rfl, tyk_Land, nm_Land, rfl, fj_Land, rfl, rfl⟩
theorem po_4_9 (x : Nat) : pOk 4 9 (.ref x) := ⟨"CookedLaw$Land", T_Land, 18, ty_Land, rfl, tyk_Land, nm_Land, rfl, fj_Land, rfl, rfl⟩
theorem po_4_10 (x : Nat) : pOk 4 10 (.ref x) := ⟨"CookedLaw$Land", T_Land, 18, ty_Land, rfl, tyk_Land, nm_Land, rfl, fj_Land, rfl, rfl⟩
theorem po_4_11 (x : Nat) : pOk 4 11 (.ref x) := ⟨"CookedLaw$Land", T_Land, 18, ty_Land, rfl, tyk_Land, nm_Land, rfl, fj_Land, rfl, rfl⟩
theorem po_4_12 (x : Nat) : pOk 4 12 (.ref x) := ⟨"CookedLaw$Land", T_Land, 18, ty_Land, rfl, tyk_Land, nm_Land, rfl, fj_Land, rfl, rfl⟩
theorem po_4_13 (x : Nat) : pOk 4 13 (.ref x) := ⟨"CookedLaw$Land", T_Land, 18, ty_Land, rfl, tyk_Land, nm_Land, rfl, fj_Land, rfl, rfl⟩
theorem po_4_14 (x : Nat) : pOk 4 14 (.ref x) := ⟨"CookedLaw$Land", T_Land, 18, ty_Land, rfl, tyk_Land, nm_Land, rfl, fj_Land, rfl, rfl⟩
theorem po_4_15 (x : Nat) : pOk 4 15 (.ref x) := ⟨"CookedLaw$Land", T_Land, 18, ty_Land, rfl, tyk_Land, nm_Land, rfl, fj_Land, rfl, rfl⟩
theorem po_4_16 (x : Nat) : pOk 4 16 (.ref x) := ⟨"CookedLaw$Land", T_Land, 18, ty_Land, rfl, tyk_Land, nm_Land, rfl, fj_Land, rfl, rfl⟩
theorem po_4_17 (x : Nat) : pOk 4 17 (.ref x) := ⟨"CookedLaw$Land", T_Land, 18, ty_Land, rfl, tyk_Land, nm_Land, rfl, fj_Land, rfl, rfl⟩
theorem fj_Law : ∀ (j : Nat) (q : Nat × Nat), (fks 5)[j]? = some q → q.2 = j := by
  have e : ∀ j, j < 4 → ∀ q ∈ (fks 5)[j]?, q.2 = j := by decide +kernel
  intro j q h
  have hj : j < 4 := (List.getElem?_eq_some_iff.mp h).1
  exact e j hj q (by rw [h]; rfl)
theorem po_5_0 (x : Nat) : pOk 5 0 (.ref x) := ⟨"CookedLaw$Law", T_Law, 4, ty_Law, rfl, tyk_Law, nm_Law, rfl, fj_Law, rfl, rfl⟩
theorem po_5_1 (x : Int32) : pOk 5 1 (.int x) := ⟨"CookedLaw$Law", T_Law, 4, ty_Law, rfl, tyk_Law, nm_Law, rfl, fj_Law, rfl, rfl⟩
theorem po_5_2 (x : Nat) : pOk 5 2 (.ref x) := ⟨"CookedLaw$Law", T_Law, 4, ty_Law, rfl, tyk_Law, nm_Law, rfl, fj_Law, rfl, rfl⟩
theorem po_5_3 (x : Nat) : pOk 5 3 (.ref x) := ⟨"CookedLaw$Law", T_Law, 4, ty_Law, rfl, tyk_Law, nm_Law, rfl, fj_Law, rfl, rfl⟩
theorem fj_State : ∀ (j : Nat) (q : Nat × Nat), (fks 6)[j]? = some q → q.2 = j := by
  have e : ∀ j, j < 10 → ∀ q ∈ (fks 6)[j]?, q.2 = j := by decide +kernel
  intro j q h
  have hj : j < 10 := (List.getElem?_eq_some_iff.mp h).1
  exact e j hj q (by rw [h]; rfl)
theorem po_6_0 (x : Int32) : pOk 6 0 (.int x) := ⟨"CookedLaw$State", T_State, 10, ty_State, rfl, tyk_State, nm_State, rfl, fj_State, rfl, rfl⟩
theorem po_6_1 (x : Int32) : pOk 6 1 (.int x) := ⟨"CookedLaw$State", T_State, 10, ty_State, rfl, tyk_State, nm_State, rfl, fj_State, rfl, rfl⟩
theorem po_6_2 (x : Int32) : pOk 6 2 (.int x) := ⟨"CookedLaw$State", T_State, 10, ty_State, rfl, tyk_State, nm_State, rfl, fj_State, rfl, rfl⟩
theorem po_6_3 (x : Int32) : pOk 6 3 (.int x) := ⟨"CookedLaw$State", T_State, 10, ty_State, rfl, tyk_State, nm_State, rfl, fj_State, rfl, rfl⟩
theorem po_6_4 (x : Nat) : pOk 6 4 (.ref x) := ⟨"CookedLaw$State", T_State, 10, ty_State, rfl, tyk_State, nm_State, rfl, fj_State, rfl, rfl⟩
theorem po_6_5 (x : Nat) : pOk 6 5 (.ref x) := ⟨"CookedLaw$State", T_State, 10, ty_State, rfl, tyk_State, nm_State, rfl, fj_State, rfl, rfl⟩
theorem po_6_6 (x : Nat) : pOk 6 6 (.ref x) := ⟨"CookedLaw$State", T_State, 10, ty_State, rfl, tyk_State, nm_State, rfl, fj_State, rfl, rfl⟩
theorem po_6_7 (x : Nat) : pOk 6 7 (.ref x) := ⟨"CookedLaw$State", T_State, 10, ty_State, rfl, tyk_State, nm_State, rfl, fj_State, rfl, rfl⟩
theorem po_6_8 (x : Nat) : pOk 6 8 (.ref x) := ⟨"CookedLaw$State", T_State, 10, ty_State, rfl, tyk_State, nm_State, rfl, fj_State, rfl, rfl⟩
theorem po_6_9 (x : Nat) : pOk 6 9 (.ref x) := ⟨"CookedLaw$State", T_State, 10, ty_State, rfl, tyk_State, nm_State, rfl, fj_State, rfl, rfl⟩
theorem fj_Past : ∀ (j : Nat) (q : Nat × Nat), (fks 7)[j]? = some q → q.2 = j := by
  have e : ∀ j, j < 3 → ∀ q ∈ (fks 7)[j]?, q.2 = j := by decide +kernel
  intro j q h
  have hj : j < 3 := (List.getElem?_eq_some_iff.mp h).1
  exact e j hj q (by rw [h]; rfl)
theorem po_7_0 (x : Nat) : pOk 7 0 (.ref x) := ⟨"CookedLaw$Past", T_Past, 3, ty_Past, rfl, tyk_Past, nm_Past, rfl, fj_Past, rfl, rfl⟩
theorem po_7_1 (x : Int32) : pOk 7 1 (.int x) := ⟨"CookedLaw$Past", T_Past, 3, ty_Past, rfl, tyk_Past, nm_Past, rfl, fj_Past, rfl, rfl⟩
theorem po_7_2 (x : Int32) : pOk 7 2 (.int x) := ⟨"CookedLaw$Past", T_Past, 3, ty_Past, rfl, tyk_Past, nm_Past, rfl, fj_Past, rfl, rfl⟩
theorem fj_Slots : ∀ (j : Nat) (q : Nat × Nat), (fks 8)[j]? = some q → q.2 = j := by
  have e : ∀ j, j < 2 → ∀ q ∈ (fks 8)[j]?, q.2 = j := by decide +kernel
  intro j q h
  have hj : j < 2 := (List.getElem?_eq_some_iff.mp h).1
  exact e j hj q (by rw [h]; rfl)
theorem po_8_0 (x : Nat) : pOk 8 0 (.ref x) := ⟨"CookedLaw$Slots", T_Slots, 2, ty_Slots, rfl, tyk_Slots, nm_Slots, rfl, fj_Slots, rfl, rfl⟩
theorem po_8_1 (x : Int32) : pOk 8 1 (.int x) := ⟨"CookedLaw$Slots", T_Slots, 2, ty_Slots, rfl, tyk_Slots, nm_Slots, rfl, fj_Slots, rfl, rfl⟩
theorem fj_Told : ∀ (j : Nat) (q : Nat × Nat), (fks 9)[j]? = some q → q.2 = j := by
  have e : ∀ j, j < 9 → ∀ q ∈ (fks 9)[j]?, q.2 = j := by decide +kernel
  intro j q h
  have hj : j < 9 := (List.getElem?_eq_some_iff.mp h).1
  exact e j hj q (by rw [h]; rfl)
theorem po_9_0 (x : Nat) : pOk 9 0 (.ref x) := ⟨"CookedLaw$Told", T_Told, 9, ty_Told, rfl, tyk_Told, nm_Told, rfl, fj_Told, rfl, rfl⟩
theorem po_9_1 (x : Nat) : pOk 9 1 (.ref x) := ⟨"CookedLaw$Told", T_Told, 9, ty_Told, rfl, tyk_Told, nm_Told, rfl, fj_Told, rfl, rfl⟩
theorem po_9_2 (x : Nat) : pOk 9 2 (.ref x) := ⟨"CookedLaw$Told", T_Told, 9, ty_Told, rfl, tyk_Told, nm_Told, rfl, fj_Told, rfl, rfl⟩
theorem po_9_3 (x : Int32) : pOk 9 3 (.int x) := ⟨"CookedLaw$Told", T_Told, 9, ty_Told, rfl, tyk_Told, nm_Told, rfl, fj_Told, rfl, rfl⟩
theorem po_9_4 (x : Nat) : pOk 9 4 (.ref x) := ⟨"CookedLaw$Told", T_Told, 9, ty_Told, rfl, tyk_Told, nm_Told, rfl, fj_Told, rfl, rfl⟩
theorem po_9_5 (x : Nat) : pOk 9 5 (.ref x) := ⟨"CookedLaw$Told", T_Told, 9, ty_Told, rfl, tyk_Told, nm_Told, rfl, fj_Told, rfl, rfl⟩
theorem po_9_6 (x : Nat) : pOk 9 6 (.ref x) := ⟨"CookedLaw$Told", T_Told, 9, ty_Told, rfl, tyk_Told, nm_Told, rfl, fj_Told, rfl, rfl⟩
theorem po_9_7 (x : Int32) : pOk 9 7 (.int x) := ⟨"CookedLaw$Told", T_Told, 9, ty_Told, rfl, tyk_Told, nm_Told, rfl, fj_Told, rfl, rfl⟩
theorem po_9_8 (x : Nat) : pOk 9 8 (.ref x) := ⟨"CookedLaw$Told", T_Told, 9, ty_Told, rfl, tyk_Told, nm_Told, rfl, fj_Told, rfl, rfl⟩
theorem fj_PotSearch : ∀ (j : Nat) (q : Nat × Nat), (fks 10)[j]? = some q → q.2 = j := by
  have e : ∀ j, j < 11 → ∀ q ∈ (fks 10)[j]?, q.2 = j := by decide +kernel
  intro j q h
  have hj : j < 11 := (List.getElem?_eq_some_iff.mp h).1
  exact e j hj q (by rw [h]; rfl)
theorem po_10_0 (x : Nat) : pOk 10 0 (.ref x) := ⟨"CookedLaw$PotSearch", T_PotSearch, 11, ty_PotSearch, rfl, tyk_PotSearch, nm_PotSearch, rfl, fj_PotSearch, rfl, rfl⟩
theorem po_10_1 (x : Nat) : pOk 10 1 (.ref x) := ⟨"CookedLaw$PotSearch", T_PotSearch, 11, ty_PotSearch, rfl, tyk_PotSearch, nm_PotSearch, rfl, fj_PotSearch, rfl, rfl⟩
theorem po_10_2 (x : Nat) : pOk 10 2 (.ref x) := ⟨"CookedLaw$PotSearch", T_PotSearch, 11, ty_PotSearch, rfl, tyk_PotSearch, nm_PotSearch, rfl, fj_PotSearch, rfl, rfl⟩
theorem po_10_3 (x : Int32) : pOk 10 3 (.int x) := ⟨"CookedLaw$PotSearch", T_PotSearch, 11, ty_PotSearch, rfl, tyk_PotSearch, nm_PotSearch, rfl, fj_PotSearch, rfl, rfl⟩
theorem po_10_4 (x : Int32) : pOk 10 4 (.int x) := ⟨"CookedLaw$PotSearch", T_PotSearch, 11, ty_PotSearch, rfl, tyk_PotSearch, nm_PotSearch, rfl, fj_PotSearch, rfl, rfl⟩
theorem po_10_5 (x : Nat) : pOk 10 5 (.ref x) := ⟨"CookedLaw$PotSearch", T_PotSearch, 11, ty_PotSearch, rfl, tyk_PotSearch, nm_PotSearch, rfl, fj_PotSearch, rfl, rfl⟩
theorem po_10_6 (x : Int32) : pOk 10 6 (.int x) := ⟨"CookedLaw$PotSearch", T_PotSearch, 11, ty_PotSearch, rfl, tyk_PotSearch, nm_PotSearch, rfl, fj_PotSearch, rfl, rfl⟩
theorem po_10_7 (x : Int32) : pOk 10 7 (.int x) := ⟨"CookedLaw$PotSearch", T_PotSearch, 11, ty_PotSearch, rfl, tyk_PotSearch, nm_PotSearch, rfl, fj_PotSearch, rfl, rfl⟩
theorem po_10_8 (x : Int32) : pOk 10 8 (.int x) := ⟨"CookedLaw$PotSearch", T_PotSearch, 11, ty_PotSearch, rfl, tyk_PotSearch, nm_PotSearch, rfl, fj_PotSearch, rfl, rfl⟩
theorem po_10_9_0 : pOk 10 9 (.int 0) := ⟨"CookedLaw$PotSearch", T_PotSearch, 11, ty_PotSearch, rfl, tyk_PotSearch, nm_PotSearch, rfl, fj_PotSearch, rfl, rfl⟩
theorem po_10_9_1 : pOk 10 9 (.int 1) := ⟨"CookedLaw$PotSearch", T_PotSearch, 11, ty_PotSearch, rfl, tyk_PotSearch, nm_PotSearch, rfl, fj_PotSearch, rfl, rfl⟩
theorem po_10_10 (x : Int32) : pOk 10 10 (.int x) := ⟨"CookedLaw$PotSearch", T_PotSearch, 11, ty_PotSearch, rfl, tyk_PotSearch, nm_PotSearch, rfl, fj_PotSearch, rfl, rfl⟩
theorem fj_MenuSearch : ∀ (j : Nat) (q : Nat × Nat), (fks 11)[j]? = some q → q.2 = j := by
  have e : ∀ j, j < 5 → ∀ q ∈ (fks 11)[j]?, q.2 = j := by decide +kernel
  intro j q h
  have hj : j < 5 := (List.getElem?_eq_some_iff.mp h).1
  exact e j hj q (by rw [h]; rfl)
theorem po_11_0 (x : Nat) : pOk 11 0 (.ref x) := ⟨"CookedLaw$MenuSearch", T_MenuSearch, 5, ty_MenuSearch, rfl, tyk_MenuSearch, nm_MenuSearch, rfl, fj_MenuSearch, rfl, rfl⟩
theorem po_11_1 (x : Nat) : pOk 11 1 (.ref x) := ⟨"CookedLaw$MenuSearch", T_MenuSearch, 5, ty_MenuSearch, rfl, tyk_MenuSearch, nm_MenuSearch, rfl, fj_MenuSearch, rfl, rfl⟩
theorem po_11_2 (x : Nat) : pOk 11 2 (.ref x) := ⟨"CookedLaw$MenuSearch", T_MenuSearch, 5, ty_MenuSearch, rfl, tyk_MenuSearch, nm_MenuSearch, rfl, fj_MenuSearch, rfl, rfl⟩
theorem po_11_3 (x : Nat) : pOk 11 3 (.ref x) := ⟨"CookedLaw$MenuSearch", T_MenuSearch, 5, ty_MenuSearch, rfl, tyk_MenuSearch, nm_MenuSearch, rfl, fj_MenuSearch, rfl, rfl⟩
theorem po_11_4 (x : Int32) : pOk 11 4 (.int x) := ⟨"CookedLaw$MenuSearch", T_MenuSearch, 5, ty_MenuSearch, rfl, tyk_MenuSearch, nm_MenuSearch, rfl, fj_MenuSearch, rfl, rfl⟩
theorem fj_Mod : ∀ (j : Nat) (q : Nat × Nat), (fks 12)[j]? = some q → q.2 = j := by
  have e : ∀ j, j < 71 → ∀ q ∈ (fks 12)[j]?, q.2 = j := by decide +kernel
  intro j q h
  have hj : j < 71 := (List.getElem?_eq_some_iff.mp h).1
  exact e j hj q (by rw [h]; rfl)
theorem po_12_0 (x : Int32) : pOk 12 0 (.int x) := ⟨"CookedLawModel", T_Mod, 71, ty_Mod, rfl, tyk_Mod, nm_Mod, rfl, fj_Mod, rfl, rfl⟩
theorem po_12_1 (x : Nat) : pOk 12 1 (.ref x) := ⟨"CookedLawModel", T_Mod, 71, ty_Mod, rfl, tyk_Mod, nm_Mod, rfl, fj_Mod, rfl, rfl⟩
theorem po_12_2 (x : Int32) : pOk 12 2 (.int x) := ⟨"CookedLawModel", T_Mod, 71, ty_Mod, rfl, tyk_Mod, nm_Mod, rfl, fj_Mod, rfl, rfl⟩
theorem po_12_3 (x : Nat) : pOk 12 3 (.ref x) := ⟨"CookedLawModel", T_Mod, 71, ty_Mod, rfl, tyk_Mod, nm_Mod, rfl, fj_Mod, rfl, rfl⟩
theorem po_12_4 (x : Int32) : pOk 12 4 (.int x) := ⟨"CookedLawModel", T_Mod, 71, ty_Mod, rfl, tyk_Mod, nm_Mod, rfl, fj_Mod, rfl, rfl⟩
theorem po_12_5 (x : Nat) : pOk 12 5 (.ref x) := ⟨"CookedLawModel", T_Mod, 71, ty_Mod, rfl, tyk_Mod, nm_Mod, rfl, fj_Mod, rfl, rfl⟩
theorem po_12_6 (x : Nat) : pOk 12 6 (.ref x) := ⟨"CookedLawModel", T_Mod, 71, ty_Mod, rfl, tyk_Mod, nm_Mod, rfl, fj_Mod, rfl, rfl⟩
theorem po_12_7 (x : Nat) : pOk 12 7 (.ref x) := ⟨"CookedLawModel", T_Mod, 71, ty_Mod, rfl, tyk_Mod, nm_Mod, rfl, fj_Mod, rfl, rfl⟩
theorem po_12_8 (x : Nat) : pOk 12 8 (.ref x) := ⟨"CookedLawModel", T_Mod, 71, ty_Mod, rfl, tyk_Mod, nm_Mod, rfl, fj_Mod, rfl, rfl⟩
theorem po_12_9 (x : Nat) : pOk 12 9 (.ref x) := ⟨"CookedLawModel", T_Mod, 71, ty_Mod, rfl, tyk_Mod, nm_Mod, rfl, fj_Mod, rfl, rfl⟩
theorem po_12_10 (x : Int32) : pOk 12 10 (.int x) := ⟨"CookedLawModel", T_Mod, 71, ty_Mod, rfl, tyk_Mod, nm_Mod, rfl, fj_Mod, rfl, rfl⟩
theorem po_12_11 (x : Int32) : pOk 12 11 (.int x) := ⟨"CookedLawModel", T_Mod, 71, ty_Mod, rfl, tyk_Mod, nm_Mod, rfl, fj_Mod, rfl, rfl⟩
theorem po_12_12 (x : Int32) : pOk 12 12 (.int x) := ⟨"CookedLawModel", T_Mod, 71, ty_Mod, rfl, tyk_Mod, nm_Mod, rfl, fj_Mod, rfl, rfl⟩
theorem po_12_13 (x : Int32) : pOk 12 13 (.int x) := ⟨"CookedLawModel", T_Mod, 71, ty_Mod, rfl, tyk_Mod, nm_Mod, rfl, fj_Mod, rfl, rfl⟩
theorem po_12_14 (x : Int32) : pOk 12 14 (.int x) := ⟨"CookedLawModel", T_Mod, 71, ty_Mod, rfl, tyk_Mod, nm_Mod, rfl, fj_Mod, rfl, rfl⟩
theorem po_12_15 (x : Int32) : pOk 12 15 (.int x) := ⟨"CookedLawModel", T_Mod, 71, ty_Mod, rfl, tyk_Mod, nm_Mod, rfl, fj_Mod, rfl, rfl⟩
theorem po_12_16 (x : Int32) : pOk 12 16 (.int x) := ⟨"CookedLawModel", T_Mod, 71, ty_Mod, rfl, tyk_Mod, nm_Mod, rfl, fj_Mod, rfl, rfl⟩
theorem po_12_17 (x : Int32) : pOk 12 17 (.int x) := ⟨"CookedLawModel", T_Mod, 71, ty_Mod, rfl, tyk_Mod, nm_Mod, rfl, fj_Mod, rfl, rfl⟩
theorem po_12_18 (x : Int32) : pOk 12 18 (.int x) := ⟨"CookedLawModel", T_Mod, 71, ty_Mod, rfl, tyk_Mod, nm_Mod, rfl, fj_Mod, rfl, rfl⟩
theorem po_12_19 (x : Int32) : pOk 12 19 (.int x) := ⟨"CookedLawModel", T_Mod, 71, ty_Mod, rfl, tyk_Mod, nm_Mod, rfl, fj_Mod, rfl, rfl⟩
theorem po_12_20 (x : Int32) : pOk 12 20 (.int x) := ⟨"CookedLawModel", T_Mod, 71, ty_Mod, rfl, tyk_Mod, nm_Mod, rfl, fj_Mod, rfl, rfl⟩
theorem po_12_21 (x : Nat) : pOk 12 21 (.ref x) := ⟨"CookedLawModel", T_Mod, 71, ty_Mod, rfl, tyk_Mod, nm_Mod, rfl, fj_Mod, rfl, rfl⟩
theorem po_12_22 (x : Nat) : pOk 12 22 (.ref x) := ⟨"CookedLawModel", T_Mod, 71, ty_Mod, rfl, tyk_Mod, nm_Mod, rfl, fj_Mod, rfl, rfl⟩
theorem po_12_23 (x : Nat) : pOk 12 23 (.ref x) := ⟨"CookedLawModel", T_Mod, 71, ty_Mod, rfl, tyk_Mod, nm_Mod, rfl, fj_Mod, rfl, rfl⟩
theorem po_12_24 (x : Nat) : pOk 12 24 (.ref x) := ⟨"CookedLawModel", T_Mod, 71, ty_Mod, rfl, tyk_Mod, nm_Mod, rfl, fj_Mod, rfl, rfl⟩
theorem po_12_25 (x : Nat) : pOk 12 25 (.ref x) := ⟨"CookedLawModel", T_Mod, 71, ty_Mod, rfl, tyk_Mod, nm_Mod, rfl, fj_Mod, rfl, rfl⟩
theorem po_12_26 (x : Nat) : pOk 12 26 (.ref x) := ⟨"CookedLawModel", T_Mod, 71, ty_Mod, rfl, tyk_Mod, nm_Mod, rfl, fj_Mod, rfl, rfl⟩
theorem po_12_27 (x : Nat) : pOk 12 27 (.ref x) := ⟨"CookedLawModel", T_Mod, 71, ty_Mod, rfl, tyk_Mod, nm_Mod, rfl, fj_Mod, rfl, rfl⟩
theorem po_12_28 (x : Nat) : pOk 12 28 (.ref x) := ⟨"CookedLawModel", T_Mod, 71, ty_Mod, rfl, tyk_Mod, nm_Mod, rfl, fj_Mod, rfl, rfl⟩
theorem po_12_29 (x : Nat) : pOk 12 29 (.ref x) := ⟨"CookedLawModel", T_Mod, 71, ty_Mod, rfl, tyk_Mod, nm_Mod, rfl, fj_Mod, rfl, rfl⟩
theorem po_12_30 (x : Nat) : pOk 12 30 (.ref x) := ⟨"CookedLawModel", T_Mod, 71, ty_Mod, rfl, tyk_Mod, nm_Mod, rfl, fj_Mod, rfl, rfl⟩
theorem po_12_31 (x : Nat) : pOk 12 31 (.ref x) := ⟨"CookedLawModel", T_Mod, 71, ty_Mod, rfl, tyk_Mod, nm_Mod, rfl, fj_Mod, rfl, rfl⟩
theorem po_12_32 (x : Nat) : pOk 12 32 (.ref x) := ⟨"CookedLawModel", T_Mod, 71, ty_Mod, rfl, tyk_Mod, nm_Mod, rfl, fj_Mod, rfl, rfl⟩
theorem po_12_33 (x : Nat) : pOk 12 33 (.ref x) := ⟨"CookedLawModel", T_Mod, 71, ty_Mod, rfl, tyk_Mod, nm_Mod, rfl, fj_Mod, rfl, rfl⟩
theorem po_12_34 (x : Nat) : pOk 12 34 (.ref x) := ⟨"CookedLawModel", T_Mod, 71, ty_Mod, rfl, tyk_Mod, nm_Mod, rfl, fj_Mod, rfl, rfl⟩
theorem po_12_35 (x : Nat) : pOk 12 35 (.ref x) := ⟨"CookedLawModel", T_Mod, 71, ty_Mod, rfl, tyk_Mod, nm_Mod, rfl, fj_Mod, rfl, rfl⟩
theorem po_12_36 (x : Nat) : pOk 12 36 (.ref x) := ⟨"CookedLawModel", T_Mod, 71, ty_Mod, rfl, tyk_Mod, nm_Mod, rfl, fj_Mod, rfl, rfl⟩
theorem po_12_37 (x : Nat) : pOk 12 37 (.ref x) := ⟨"CookedLawModel", T_Mod, 71, ty_Mod, rfl, tyk_Mod, nm_Mod, rfl, fj_Mod, rfl, rfl⟩
theorem po_12_38 (x : Int32) : pOk 12 38 (.int x) := ⟨"CookedLawModel", T_Mod, 71, ty_Mod, rfl, tyk_Mod, nm_Mod, rfl, fj_Mod, rfl, rfl⟩
theorem po_12_39 (x : Nat) : pOk 12 39 (.ref x) := ⟨"CookedLawModel", T_Mod, 71, ty_Mod, rfl, tyk_Mod, nm_Mod, rfl, fj_Mod, rfl, rfl⟩
theorem po_12_40 (x : Nat) : pOk 12 40 (.ref x) := ⟨"CookedLawModel", T_Mod, 71, ty_Mod, rfl, tyk_Mod, nm_Mod, rfl, fj_Mod, rfl, rfl⟩
theorem po_12_41 (x : Nat) : pOk 12 41 (.ref x) := ⟨"CookedLawModel", T_Mod, 71, ty_Mod, rfl, tyk_Mod, nm_Mod, rfl, fj_Mod, rfl, rfl⟩
theorem po_12_42 (x : Nat) : pOk 12 42 (.ref x) := ⟨"CookedLawModel", T_Mod, 71, ty_Mod, rfl, tyk_Mod, nm_Mod, rfl, fj_Mod, rfl, rfl⟩
theorem po_12_43 (x : Nat) : pOk 12 43 (.ref x) := ⟨"CookedLawModel", T_Mod, 71, ty_Mod, rfl, tyk_Mod, nm_Mod, rfl, fj_Mod, rfl, rfl⟩
theorem po_12_44 (x : Int32) : pOk 12 44 (.int x) := ⟨"CookedLawModel", T_Mod, 71, ty_Mod, rfl, tyk_Mod, nm_Mod, rfl, fj_Mod, rfl, rfl⟩
theorem po_12_45 (x : Nat) : pOk 12 45 (.ref x) := ⟨"CookedLawModel", T_Mod, 71, ty_Mod, rfl, tyk_Mod, nm_Mod, rfl, fj_Mod, rfl, rfl⟩
theorem po_12_46 (x : Nat) : pOk 12 46 (.ref x) := ⟨"CookedLawModel", T_Mod, 71, ty_Mod, rfl, tyk_Mod, nm_Mod, rfl, fj_Mod, rfl, rfl⟩
theorem po_12_47 (x : Nat) : pOk 12 47 (.ref x) := ⟨"CookedLawModel", T_Mod, 71, ty_Mod, rfl, tyk_Mod, nm_Mod, rfl, fj_Mod, rfl, rfl⟩
theorem po_12_48 (x : Int32) : pOk 12 48 (.int x) := ⟨"CookedLawModel", T_Mod, 71, ty_Mod, rfl, tyk_Mod, nm_Mod, rfl, fj_Mod, rfl, rfl⟩
theorem po_12_49 (x : Nat) : pOk 12 49 (.ref x) := ⟨"CookedLawModel", T_Mod, 71, ty_Mod, rfl, tyk_Mod, nm_Mod, rfl, fj_Mod, rfl, rfl⟩
theorem po_12_50 (x : Nat) : pOk 12 50 (.ref x) := ⟨"CookedLawModel", T_Mod, 71, ty_Mod, rfl, tyk_Mod, nm_Mod, rfl, fj_Mod, rfl, rfl⟩
theorem po_12_51_0 : pOk 12 51 (.int 0) := ⟨"CookedLawModel", T_Mod, 71, ty_Mod, rfl, tyk_Mod, nm_Mod, rfl, fj_Mod, rfl, rfl⟩
theorem po_12_51_1 : pOk 12 51 (.int 1) := ⟨"CookedLawModel", T_Mod, 71, ty_Mod, rfl, tyk_Mod, nm_Mod, rfl, fj_Mod, rfl, rfl⟩
theorem po_12_52 (x : Nat) : pOk 12 52 (.ref x) := ⟨"CookedLawModel", T_Mod, 71, ty_Mod, rfl, tyk_Mod, nm_Mod, rfl, fj_Mod, rfl, rfl⟩
theorem po_12_53 (x : Nat) : pOk 12 53 (.ref x) := ⟨"CookedLawModel", T_Mod, 71, ty_Mod, rfl, tyk_Mod, nm_Mod, rfl, fj_Mod, rfl, rfl⟩
theorem po_12_54 (x : Int32) : pOk 12 54 (.int x) := ⟨"CookedLawModel", T_Mod, 71, ty_Mod, rfl, tyk_Mod, nm_Mod, rfl, fj_Mod, rfl, rfl⟩
theorem po_12_55 (x : Nat) : pOk 12 55 (.ref x) := ⟨"CookedLawModel", T_Mod, 71, ty_Mod, rfl, tyk_Mod, nm_Mod, rfl, fj_Mod, rfl, rfl⟩
theorem po_12_56 (x : Nat) : pOk 12 56 (.ref x) := ⟨"CookedLawModel", T_Mod, 71, ty_Mod, rfl, tyk_Mod, nm_Mod, rfl, fj_Mod, rfl, rfl⟩
theorem po_12_57 (x : Int32) : pOk 12 57 (.int x) := ⟨"CookedLawModel", T_Mod, 71, ty_Mod, rfl, tyk_Mod, nm_Mod, rfl, fj_Mod, rfl, rfl⟩
theorem po_12_58 (x : Nat) : pOk 12 58 (.ref x) := ⟨"CookedLawModel", T_Mod, 71, ty_Mod, rfl, tyk_Mod, nm_Mod, rfl, fj_Mod, rfl, rfl⟩
theorem po_12_59 (x : Int32) : pOk 12 59 (.int x) := ⟨"CookedLawModel", T_Mod, 71, ty_Mod, rfl, tyk_Mod, nm_Mod, rfl, fj_Mod, rfl, rfl⟩
theorem po_12_60 (x : Int32) : pOk 12 60 (.int x) := ⟨"CookedLawModel", T_Mod, 71, ty_Mod, rfl, tyk_Mod, nm_Mod, rfl, fj_Mod, rfl, rfl⟩
theorem po_12_61 (x : Int32) : pOk 12 61 (.int x) := ⟨"CookedLawModel", T_Mod, 71, ty_Mod, rfl, tyk_Mod, nm_Mod, rfl, fj_Mod, rfl, rfl⟩
theorem po_12_62 (x : Int32) : pOk 12 62 (.int x) := ⟨"CookedLawModel", T_Mod, 71, ty_Mod, rfl, tyk_Mod, nm_Mod, rfl, fj_Mod, rfl, rfl⟩
theorem po_12_63 (x : Int32) : pOk 12 63 (.int x) := ⟨"CookedLawModel", T_Mod, 71, ty_Mod, rfl, tyk_Mod, nm_Mod, rfl, fj_Mod, rfl, rfl⟩
theorem po_12_64 (x : Int32) : pOk 12 64 (.int x) := ⟨"CookedLawModel", T_Mod, 71, ty_Mod, rfl, tyk_Mod, nm_Mod, rfl, fj_Mod, rfl, rfl⟩
theorem po_12_65 (x : Nat) : pOk 12 65 (.ref x) := ⟨"CookedLawModel", T_Mod, 71, ty_Mod, rfl, tyk_Mod, nm_Mod, rfl, fj_Mod, rfl, rfl⟩
theorem po_12_66 (x : Nat) : pOk 12 66 (.ref x) := ⟨"CookedLawModel", T_Mod, 71, ty_Mod, rfl, tyk_Mod, nm_Mod, rfl, fj_Mod, rfl, rfl⟩
theorem po_12_67 (x : Nat) : pOk 12 67 (.ref x) := ⟨"CookedLawModel", T_Mod, 71, ty_Mod, rfl, tyk_Mod, nm_Mod, rfl, fj_Mod, rfl, rfl⟩
theorem po_12_68 (x : Nat) : pOk 12 68 (.ref x) := ⟨"CookedLawModel", T_Mod, 71, ty_Mod, rfl, tyk_Mod, nm_Mod, rfl, fj_Mod, rfl, rfl⟩
theorem po_12_69 (x : Nat) : pOk 12 69 (.ref x) := ⟨"CookedLawModel", T_Mod, 71, ty_Mod, rfl, tyk_Mod, nm_Mod, rfl, fj_Mod, rfl, rfl⟩
theorem po_12_70 (x : Nat) : pOk 12 70 (.ref x) := ⟨"CookedLawModel", T_Mod, 71, ty_Mod, rfl, tyk_Mod, nm_Mod, rfl, fj_Mod, rfl, rfl⟩
set_option maxRecDepth 100000 in
theorem cz_Main : Cond.initialized "CookedLaw" ∈ gtb := (gk_1 (List.mem_of_getElem? (i := 1) rfl) rfl)
theorem cx_Main : "CookedLaw" ≠ "java/lang/invoke/MethodHandle" ∧ "CookedLaw" ≠ "java/lang/invoke/VarHandle" := by decide +kernel
set_option maxRecDepth 100000 in
theorem cz_Tape : Cond.initialized "CookedLaw$Tape" ∈ gtb := (gk_1 (List.mem_of_getElem? (i := 2) rfl) rfl)
theorem cx_Tape : "CookedLaw$Tape" ≠ "java/lang/invoke/MethodHandle" ∧ "CookedLaw$Tape" ≠ "java/lang/invoke/VarHandle" := by decide +kernel
set_option maxRecDepth 100000 in
theorem cz_Reader : Cond.initialized "CookedLaw$Reader" ∈ gtb := (gk_1 (List.mem_of_getElem? (i := 3) rfl) rfl)
theorem cx_Reader : "CookedLaw$Reader" ≠ "java/lang/invoke/MethodHandle" ∧ "CookedLaw$Reader" ≠ "java/lang/invoke/VarHandle" := by decide +kernel
set_option maxRecDepth 100000 in
theorem cz_Tokens : Cond.initialized "CookedLaw$Tokens" ∈ gtb := (gk_1 (List.mem_of_getElem? (i := 4) rfl) rfl)
theorem cx_Tokens : "CookedLaw$Tokens" ≠ "java/lang/invoke/MethodHandle" ∧ "CookedLaw$Tokens" ≠ "java/lang/invoke/VarHandle" := by decide +kernel
set_option maxRecDepth 100000 in
theorem cz_Land : Cond.initialized "CookedLaw$Land" ∈ gtb := (gk_1 (List.mem_of_getElem? (i := 9) rfl) rfl)
theorem cx_Land : "CookedLaw$Land" ≠ "java/lang/invoke/MethodHandle" ∧ "CookedLaw$Land" ≠ "java/lang/invoke/VarHandle" := by decide +kernel
set_option maxRecDepth 100000 in
theorem cz_Law : Cond.initialized "CookedLaw$Law" ∈ gtb := (gk_1 (List.mem_of_getElem? (i := 10) rfl) rfl)
theorem cx_Law : "CookedLaw$Law" ≠ "java/lang/invoke/MethodHandle" ∧ "CookedLaw$Law" ≠ "java/lang/invoke/VarHandle" := by decide +kernel
set_option maxRecDepth 100000 in
theorem cz_State : Cond.initialized "CookedLaw$State" ∈ gtb := (gk_1 (List.mem_of_getElem? (i := 11) rfl) rfl)
theorem cx_State : "CookedLaw$State" ≠ "java/lang/invoke/MethodHandle" ∧ "CookedLaw$State" ≠ "java/lang/invoke/VarHandle" := by decide +kernel
set_option maxRecDepth 100000 in
theorem cz_Past : Cond.initialized "CookedLaw$Past" ∈ gtb := (gk_1 (List.mem_of_getElem? (i := 12) rfl) rfl)
theorem cx_Past : "CookedLaw$Past" ≠ "java/lang/invoke/MethodHandle" ∧ "CookedLaw$Past" ≠ "java/lang/invoke/VarHandle" := by decide +kernel
set_option maxRecDepth 100000 in
theorem cz_Slots : Cond.initialized "CookedLaw$Slots" ∈ gtb := (gk_1 (List.mem_of_getElem? (i := 13) rfl) rfl)
theorem cx_Slots : "CookedLaw$Slots" ≠ "java/lang/invoke/MethodHandle" ∧ "CookedLaw$Slots" ≠ "java/lang/invoke/VarHandle" := by decide +kernel
set_option maxRecDepth 100000 in
theorem cz_Told : Cond.initialized "CookedLaw$Told" ∈ gtb := (gk_1 (List.mem_of_getElem? (i := 14) rfl) rfl)
theorem cx_Told : "CookedLaw$Told" ≠ "java/lang/invoke/MethodHandle" ∧ "CookedLaw$Told" ≠ "java/lang/invoke/VarHandle" := by decide +kernel
set_option maxRecDepth 100000 in
theorem cz_PotSearch : Cond.initialized "CookedLaw$PotSearch" ∈ gtb := (gk_1 (List.mem_of_getElem? (i := 15) rfl) rfl)
theorem cx_PotSearch : "CookedLaw$PotSearch" ≠ "java/lang/invoke/MethodHandle" ∧ "CookedLaw$PotSearch" ≠ "java/lang/invoke/VarHandle" := by decide +kernel
set_option maxRecDepth 100000 in
theorem cz_MenuSearch : Cond.initialized "CookedLaw$MenuSearch" ∈ gtb := (gk_1 (List.mem_of_getElem? (i := 16) rfl) rfl)
theorem cx_MenuSearch : "CookedLaw$MenuSearch" ≠ "java/lang/invoke/MethodHandle" ∧ "CookedLaw$MenuSearch" ≠ "java/lang/invoke/VarHandle" := by decide +kernel
set_option maxRecDepth 100000 in
theorem cz_Mod : Cond.initialized "CookedLawModel" ∈ gtb := (gk_1 (List.mem_of_getElem? (i := 17) rfl) rfl)
theorem cx_Mod : "CookedLawModel" ≠ "java/lang/invoke/MethodHandle" ∧ "CookedLawModel" ≠ "java/lang/invoke/VarHandle" := by decide +kernel
set_option maxRecDepth 100000 in
theorem cz_Int : Cond.initialized "java/lang/Integer" ∈ gtb := (gk_1 (List.mem_of_getElem? (i := 19) rfl) rfl)
theorem cx_Int : "java/lang/Integer" ≠ "java/lang/invoke/MethodHandle" ∧ "java/lang/Integer" ≠ "java/lang/invoke/VarHandle" := by decide +kernel
set_option maxRecDepth 100000 in
theorem mk_Tape_init : Cond.code y_Tape_init.1 y_Tape_init.2.1 y_Tape_init.2.2.1 y_Tape_init.2.2.2.1 ∈ gtb ∧ Cond.initialized y_Tape_init.1.cls ∈ gtb ∧ y_Tape_init.1.cls ≠ "java/lang/invoke/MethodHandle" ∧ y_Tape_init.1.cls ≠ "java/lang/invoke/VarHandle" ∧ (parseMethodDescriptor y_Tape_init.1.desc).map (fun d => d.parameters.length) = some 0 := ⟨(gk_1 (List.mem_of_getElem? (i := 32) rfl) rfl), cz_Tape, cx_Tape.1, cx_Tape.2, by decide +kernel⟩
set_option maxRecDepth 100000 in
theorem mo_Main_11 : mOk "CookedLaw" 11 0 y_Tape_init := ⟨Or.inr ⟨"CookedLaw", (tk_1 (List.mem_of_getElem? (i := 30) rfl))⟩, mk_Tape_init⟩
set_option maxRecDepth 100000 in
theorem mk_Reader_init : Cond.code y_Reader_init.1 y_Reader_init.2.1 y_Reader_init.2.2.1 y_Reader_init.2.2.2.1 ∈ gtb ∧ Cond.initialized y_Reader_init.1.cls ∈ gtb ∧ y_Reader_init.1.cls ≠ "java/lang/invoke/MethodHandle" ∧ y_Reader_init.1.cls ≠ "java/lang/invoke/VarHandle" ∧ (parseMethodDescriptor y_Reader_init.1.desc).map (fun d => d.parameters.length) = some 0 := ⟨(gk_1 (List.mem_of_getElem? (i := 48) rfl) rfl), cz_Reader, cx_Reader.1, cx_Reader.2, by decide +kernel⟩
set_option maxRecDepth 100000 in
theorem mo_Main_18 : mOk "CookedLaw" 18 0 y_Reader_init := ⟨Or.inr ⟨"CookedLaw", (tk_1 (List.mem_of_getElem? (i := 46) rfl))⟩, mk_Reader_init⟩
set_option maxRecDepth 100000 in
theorem mk_Land_init : Cond.code y_Land_init.1 y_Land_init.2.1 y_Land_init.2.2.1 y_Land_init.2.2.2.1 ∈ gtb ∧ Cond.initialized y_Land_init.1.cls ∈ gtb ∧ y_Land_init.1.cls ≠ "java/lang/invoke/MethodHandle" ∧ y_Land_init.1.cls ≠ "java/lang/invoke/VarHandle" ∧ (parseMethodDescriptor y_Land_init.1.desc).map (fun d => d.parameters.length) = some 0 := ⟨(gk_1 (List.mem_of_getElem? (i := 167) rfl) rfl), cz_Land, cx_Land.1, cx_Land.2, by decide +kernel⟩
set_option maxRecDepth 100000 in
theorem mo_Main_25 : mOk "CookedLaw" 25 0 y_Land_init := ⟨Or.inr ⟨"CookedLaw", (tk_1 (List.mem_of_getElem? (i := 165) rfl))⟩, mk_Land_init⟩
set_option maxRecDepth 100000 in
theorem mk_State_init : Cond.code y_State_init.1 y_State_init.2.1 y_State_init.2.2.1 y_State_init.2.2.2.1 ∈ gtb ∧ Cond.initialized y_State_init.1.cls ∈ gtb ∧ y_State_init.1.cls ≠ "java/lang/invoke/MethodHandle" ∧ y_State_init.1.cls ≠ "java/lang/invoke/VarHandle" ∧ (parseMethodDescriptor y_State_init.1.desc).map (fun d => d.parameters.length) = some 0 := ⟨(gk_2 (List.mem_of_getElem? (i := 42) rfl) rfl), cz_State, cx_State.1, cx_State.2, by decide +kernel⟩
set_option maxRecDepth 100000 in
theorem mo_Main_35 : mOk "CookedLaw" 35 0 y_State_init := ⟨Or.inr ⟨"CookedLaw", (tk_2 (List.mem_of_getElem? (i := 40) rfl))⟩, mk_State_init⟩
set_option maxRecDepth 100000 in
theorem mk_Past_init : Cond.code y_Past_init.1 y_Past_init.2.1 y_Past_init.2.2.1 y_Past_init.2.2.2.1 ∈ gtb ∧ Cond.initialized y_Past_init.1.cls ∈ gtb ∧ y_Past_init.1.cls ≠ "java/lang/invoke/MethodHandle" ∧ y_Past_init.1.cls ≠ "java/lang/invoke/VarHandle" ∧ (parseMethodDescriptor y_Past_init.1.desc).map (fun d => d.parameters.length) = some 0 := ⟨(gk_2 (List.mem_of_getElem? (i := 90) rfl) rfl), cz_Past, cx_Past.1, cx_Past.2, by decide +kernel⟩
set_option maxRecDepth 100000 in
theorem mo_Main_45 : mOk "CookedLaw" 45 0 y_Past_init := ⟨Or.inl (gk_2 (List.mem_of_getElem? (i := 88) rfl) rfl), mk_Past_init⟩
set_option maxRecDepth 100000 in
theorem mk_Slots_init : Cond.code y_Slots_init.1 y_Slots_init.2.1 y_Slots_init.2.2.1 y_Slots_init.2.2.2.1 ∈ gtb ∧ Cond.initialized y_Slots_init.1.cls ∈ gtb ∧ y_Slots_init.1.cls ≠ "java/lang/invoke/MethodHandle" ∧ y_Slots_init.1.cls ≠ "java/lang/invoke/VarHandle" ∧ (parseMethodDescriptor y_Slots_init.1.desc).map (fun d => d.parameters.length) = some 0 := ⟨(gk_2 (List.mem_of_getElem? (i := 110) rfl) rfl), cz_Slots, cx_Slots.1, cx_Slots.2, by decide +kernel⟩
set_option maxRecDepth 100000 in
theorem mo_Main_52 : mOk "CookedLaw" 52 0 y_Slots_init := ⟨Or.inl (gk_2 (List.mem_of_getElem? (i := 108) rfl) rfl), mk_Slots_init⟩
set_option maxRecDepth 100000 in
theorem mk_Told_init : Cond.code y_Told_init.1 y_Told_init.2.1 y_Told_init.2.2.1 y_Told_init.2.2.2.1 ∈ gtb ∧ Cond.initialized y_Told_init.1.cls ∈ gtb ∧ y_Told_init.1.cls ≠ "java/lang/invoke/MethodHandle" ∧ y_Told_init.1.cls ≠ "java/lang/invoke/VarHandle" ∧ (parseMethodDescriptor y_Told_init.1.desc).map (fun d => d.parameters.length) = some 0 := ⟨(gk_2 (List.mem_of_getElem? (i := 125) rfl) rfl), cz_Told, cx_Told.1, cx_Told.2, by decide +kernel⟩
set_option maxRecDepth 100000 in
theorem mo_Main_59 : mOk "CookedLaw" 59 0 y_Told_init := ⟨Or.inr ⟨"CookedLaw", (tk_2 (List.mem_of_getElem? (i := 123) rfl))⟩, mk_Told_init⟩
set_option maxRecDepth 100000 in
theorem mk_PotSearch_init : Cond.code y_PotSearch_init.1 y_PotSearch_init.2.1 y_PotSearch_init.2.2.1 y_PotSearch_init.2.2.2.1 ∈ gtb ∧ Cond.initialized y_PotSearch_init.1.cls ∈ gtb ∧ y_PotSearch_init.1.cls ≠ "java/lang/invoke/MethodHandle" ∧ y_PotSearch_init.1.cls ≠ "java/lang/invoke/VarHandle" ∧ (parseMethodDescriptor y_PotSearch_init.1.desc).map (fun d => d.parameters.length) = some 0 := ⟨(gk_2 (List.mem_of_getElem? (i := 161) rfl) rfl), cz_PotSearch, cx_PotSearch.1, cx_PotSearch.2, by decide +kernel⟩
set_option maxRecDepth 100000 in
theorem mo_Main_66 : mOk "CookedLaw" 66 0 y_PotSearch_init := ⟨Or.inr ⟨"CookedLaw", (tk_2 (List.mem_of_getElem? (i := 159) rfl))⟩, mk_PotSearch_init⟩
set_option maxRecDepth 100000 in
theorem mk_MenuSearch_init : Cond.code y_MenuSearch_init.1 y_MenuSearch_init.2.1 y_MenuSearch_init.2.2.1 y_MenuSearch_init.2.2.2.1 ∈ gtb ∧ Cond.initialized y_MenuSearch_init.1.cls ∈ gtb ∧ y_MenuSearch_init.1.cls ≠ "java/lang/invoke/MethodHandle" ∧ y_MenuSearch_init.1.cls ≠ "java/lang/invoke/VarHandle" ∧ (parseMethodDescriptor y_MenuSearch_init.1.desc).map (fun d => d.parameters.length) = some 0 := ⟨(gk_2 (List.mem_of_getElem? (i := 204) rfl) rfl), cz_MenuSearch, cx_MenuSearch.1, cx_MenuSearch.2, by decide +kernel⟩
set_option maxRecDepth 100000 in
theorem mo_Main_73 : mOk "CookedLaw" 73 0 y_MenuSearch_init := ⟨Or.inr ⟨"CookedLaw", (tk_2 (List.mem_of_getElem? (i := 202) rfl))⟩, mk_MenuSearch_init⟩
set_option maxRecDepth 100000 in
theorem mk_Tape_write : Cond.code y_Tape_write.1 y_Tape_write.2.1 y_Tape_write.2.2.1 y_Tape_write.2.2.2.1 ∈ gtb ∧ Cond.initialized y_Tape_write.1.cls ∈ gtb ∧ y_Tape_write.1.cls ≠ "java/lang/invoke/MethodHandle" ∧ y_Tape_write.1.cls ≠ "java/lang/invoke/VarHandle" ∧ (parseMethodDescriptor y_Tape_write.1.desc).map (fun d => d.parameters.length) = some 1 := ⟨(gk_3 (List.mem_of_getElem? (i := 29) rfl) rfl), cz_Tape, cx_Tape.1, cx_Tape.2, by decide +kernel⟩
set_option maxRecDepth 100000 in
theorem mo_Main_85 : mOk "CookedLaw" 85 1 y_Tape_write := ⟨Or.inl (gk_3 (List.mem_of_getElem? (i := 26) rfl) rfl), mk_Tape_write⟩
set_option maxRecDepth 100000 in
theorem mk_Reader_parse : Cond.code y_Reader_parse.1 y_Reader_parse.2.1 y_Reader_parse.2.2.1 y_Reader_parse.2.2.2.1 ∈ gtb ∧ Cond.initialized y_Reader_parse.1.cls ∈ gtb ∧ y_Reader_parse.1.cls ≠ "java/lang/invoke/MethodHandle" ∧ y_Reader_parse.1.cls ≠ "java/lang/invoke/VarHandle" ∧ (parseMethodDescriptor y_Reader_parse.1.desc).map (fun d => d.parameters.length) = some 2 := ⟨(gk_3 (List.mem_of_getElem? (i := 44) rfl) rfl), cz_Reader, cx_Reader.1, cx_Reader.2, by decide +kernel⟩
set_option maxRecDepth 100000 in
theorem mo_Main_89 : mOk "CookedLaw" 89 2 y_Reader_parse := ⟨Or.inl (gk_3 (List.mem_of_getElem? (i := 41) rfl) rfl), mk_Reader_parse⟩
set_option maxRecDepth 100000 in
theorem mk_Reader_placeOfFault : Cond.code y_Reader_placeOfFault.1 y_Reader_placeOfFault.2.1 y_Reader_placeOfFault.2.2.1 y_Reader_placeOfFault.2.2.2.1 ∈ gtb ∧ Cond.initialized y_Reader_placeOfFault.1.cls ∈ gtb ∧ y_Reader_placeOfFault.1.cls ≠ "java/lang/invoke/MethodHandle" ∧ y_Reader_placeOfFault.1.cls ≠ "java/lang/invoke/VarHandle" ∧ (parseMethodDescriptor y_Reader_placeOfFault.1.desc).map (fun d => d.parameters.length) = some 0 := ⟨(gk_3 (List.mem_of_getElem? (i := 216) rfl) rfl), cz_Reader, cx_Reader.1, cx_Reader.2, by decide +kernel⟩
set_option maxRecDepth 100000 in
theorem mo_Main_93 : mOk "CookedLaw" 93 0 y_Reader_placeOfFault := ⟨Or.inl (gk_3 (List.mem_of_getElem? (i := 213) rfl) rfl), mk_Reader_placeOfFault⟩
set_option maxRecDepth 100000 in
theorem mk_Main_beginDraft : Cond.code y_Main_beginDraft.1 y_Main_beginDraft.2.1 y_Main_beginDraft.2.2.1 y_Main_beginDraft.2.2.2.1 ∈ gtb ∧ Cond.initialized y_Main_beginDraft.1.cls ∈ gtb ∧ y_Main_beginDraft.1.cls ≠ "java/lang/invoke/MethodHandle" ∧ y_Main_beginDraft.1.cls ≠ "java/lang/invoke/VarHandle" ∧ (parseMethodDescriptor y_Main_beginDraft.1.desc).map (fun d => d.parameters.length) = some 0 := ⟨(gk_3 (List.mem_of_getElem? (i := 220) rfl) rfl), cz_Main, cx_Main.1, cx_Main.2, by decide +kernel⟩
set_option maxRecDepth 100000 in
theorem mo_Main_97 : mOk "CookedLaw" 97 0 y_Main_beginDraft := ⟨Or.inl (gk_3 (List.mem_of_getElem? (i := 217) rfl) rfl), mk_Main_beginDraft⟩
set_option maxRecDepth 100000 in
theorem mk_State_begin : Cond.code y_State_begin.1 y_State_begin.2.1 y_State_begin.2.2.1 y_State_begin.2.2.2.1 ∈ gtb ∧ Cond.initialized y_State_begin.1.cls ∈ gtb ∧ y_State_begin.1.cls ≠ "java/lang/invoke/MethodHandle" ∧ y_State_begin.1.cls ≠ "java/lang/invoke/VarHandle" ∧ (parseMethodDescriptor y_State_begin.1.desc).map (fun d => d.parameters.length) = some 1 := ⟨(gk_3 (List.mem_of_getElem? (i := 224) rfl) rfl), cz_State, cx_State.1, cx_State.2, by decide +kernel⟩
set_option maxRecDepth 100000 in
theorem mo_Main_100 : mOk "CookedLaw" 100 1 y_State_begin := ⟨Or.inl (gk_3 (List.mem_of_getElem? (i := 221) rfl) rfl), mk_State_begin⟩
set_option maxRecDepth 100000 in
theorem mk_Past_clear : Cond.code y_Past_clear.1 y_Past_clear.2.1 y_Past_clear.2.2.1 y_Past_clear.2.2.2.1 ∈ gtb ∧ Cond.initialized y_Past_clear.1.cls ∈ gtb ∧ y_Past_clear.1.cls ≠ "java/lang/invoke/MethodHandle" ∧ y_Past_clear.1.cls ≠ "java/lang/invoke/VarHandle" ∧ (parseMethodDescriptor y_Past_clear.1.desc).map (fun d => d.parameters.length) = some 0 := ⟨(gk_3 (List.mem_of_getElem? (i := 231) rfl) rfl), cz_Past, cx_Past.1, cx_Past.2, by decide +kernel⟩
set_option maxRecDepth 100000 in
theorem mo_Main_104 : mOk "CookedLaw" 104 0 y_Past_clear := ⟨Or.inl (gk_3 (List.mem_of_getElem? (i := 228) rfl) rfl), mk_Past_clear⟩
set_option maxRecDepth 100000 in
theorem mk_Slots_clear : Cond.code y_Slots_clear.1 y_Slots_clear.2.1 y_Slots_clear.2.2.1 y_Slots_clear.2.2.2.1 ∈ gtb ∧ Cond.initialized y_Slots_clear.1.cls ∈ gtb ∧ y_Slots_clear.1.cls ≠ "java/lang/invoke/MethodHandle" ∧ y_Slots_clear.1.cls ≠ "java/lang/invoke/VarHandle" ∧ (parseMethodDescriptor y_Slots_clear.1.desc).map (fun d => d.parameters.length) = some 0 := ⟨(gk_3 (List.mem_of_getElem? (i := 235) rfl) rfl), cz_Slots, cx_Slots.1, cx_Slots.2, by decide +kernel⟩
set_option maxRecDepth 100000 in
theorem mo_Main_107 : mOk "CookedLaw" 107 0 y_Slots_clear := ⟨Or.inl (gk_3 (List.mem_of_getElem? (i := 232) rfl) rfl), mk_Slots_clear⟩
set_option maxRecDepth 100000 in
theorem mk_Told_clear : Cond.code y_Told_clear.1 y_Told_clear.2.1 y_Told_clear.2.2.1 y_Told_clear.2.2.2.1 ∈ gtb ∧ Cond.initialized y_Told_clear.1.cls ∈ gtb ∧ y_Told_clear.1.cls ≠ "java/lang/invoke/MethodHandle" ∧ y_Told_clear.1.cls ≠ "java/lang/invoke/VarHandle" ∧ (parseMethodDescriptor y_Told_clear.1.desc).map (fun d => d.parameters.length) = some 0 := ⟨(gk_3 (List.mem_of_getElem? (i := 239) rfl) rfl), cz_Told, cx_Told.1, cx_Told.2, by decide +kernel⟩
set_option maxRecDepth 100000 in
theorem mo_Main_108 : mOk "CookedLaw" 108 0 y_Told_clear := ⟨Or.inl (gk_3 (List.mem_of_getElem? (i := 236) rfl) rfl), mk_Told_clear⟩
set_option maxRecDepth 100000 in
theorem mk_Main_isOne : Cond.code y_Main_isOne.1 y_Main_isOne.2.1 y_Main_isOne.2.2.1 y_Main_isOne.2.2.2.1 ∈ gtb ∧ Cond.initialized y_Main_isOne.1.cls ∈ gtb ∧ y_Main_isOne.1.cls ≠ "java/lang/invoke/MethodHandle" ∧ y_Main_isOne.1.cls ≠ "java/lang/invoke/VarHandle" ∧ (parseMethodDescriptor y_Main_isOne.1.desc).map (fun d => d.parameters.length) = some 2 := ⟨(gk_3 (List.mem_of_getElem? (i := 183) rfl) rfl), cz_Main, cx_Main.1, cx_Main.2, by decide +kernel⟩
set_option maxRecDepth 100000 in
theorem mo_Main_112 : mOk "CookedLaw" 112 2 y_Main_isOne := ⟨Or.inl (gk_4 (List.mem_of_getElem? (i := 8) rfl) rfl), mk_Main_isOne⟩
set_option maxRecDepth 100000 in
theorem mk_Main_at : Cond.code y_Main_at.1 y_Main_at.2.1 y_Main_at.2.2.1 y_Main_at.2.2.2.1 ∈ gtb ∧ Cond.initialized y_Main_at.1.cls ∈ gtb ∧ y_Main_at.1.cls ≠ "java/lang/invoke/MethodHandle" ∧ y_Main_at.1.cls ≠ "java/lang/invoke/VarHandle" ∧ (parseMethodDescriptor y_Main_at.1.desc).map (fun d => d.parameters.length) = some 2 := ⟨(gk_3 (List.mem_of_getElem? (i := 101) rfl) rfl), cz_Main, cx_Main.1, cx_Main.2, by decide +kernel⟩
set_option maxRecDepth 100000 in
theorem mo_Main_120 : mOk "CookedLaw" 120 2 y_Main_at := ⟨Or.inl (gk_4 (List.mem_of_getElem? (i := 9) rfl) rfl), mk_Main_at⟩
set_option maxRecDepth 100000 in
theorem mk_Land_broughtBy : Cond.code y_Land_broughtBy.1 y_Land_broughtBy.2.1 y_Land_broughtBy.2.2.1 y_Land_broughtBy.2.2.2.1 ∈ gtb ∧ Cond.initialized y_Land_broughtBy.1.cls ∈ gtb ∧ y_Land_broughtBy.1.cls ≠ "java/lang/invoke/MethodHandle" ∧ y_Land_broughtBy.1.cls ≠ "java/lang/invoke/VarHandle" ∧ (parseMethodDescriptor y_Land_broughtBy.1.desc).map (fun d => d.parameters.length) = some 2 := ⟨(gk_4 (List.mem_of_getElem? (i := 13) rfl) rfl), cz_Land, cx_Land.1, cx_Land.2, by decide +kernel⟩
set_option maxRecDepth 100000 in
theorem mo_Main_127 : mOk "CookedLaw" 127 2 y_Land_broughtBy := ⟨Or.inl (gk_4 (List.mem_of_getElem? (i := 10) rfl) rfl), mk_Land_broughtBy⟩
set_option maxRecDepth 100000 in
theorem mk_Land_manyIn : Cond.code y_Land_manyIn.1 y_Land_manyIn.2.1 y_Land_manyIn.2.2.1 y_Land_manyIn.2.2.2.1 ∈ gtb ∧ Cond.initialized y_Land_manyIn.1.cls ∈ gtb ∧ y_Land_manyIn.1.cls ≠ "java/lang/invoke/MethodHandle" ∧ y_Land_manyIn.1.cls ≠ "java/lang/invoke/VarHandle" ∧ (parseMethodDescriptor y_Land_manyIn.1.desc).map (fun d => d.parameters.length) = some 1 := ⟨(gk_4 (List.mem_of_getElem? (i := 21) rfl) rfl), cz_Land, cx_Land.1, cx_Land.2, by decide +kernel⟩
set_option maxRecDepth 100000 in
theorem mo_Main_137 : mOk "CookedLaw" 137 1 y_Land_manyIn := ⟨Or.inl (gk_4 (List.mem_of_getElem? (i := 18) rfl) rfl), mk_Land_manyIn⟩
set_option maxRecDepth 100000 in
theorem mk_Land_priceOf : Cond.code y_Land_priceOf.1 y_Land_priceOf.2.1 y_Land_priceOf.2.2.1 y_Land_priceOf.2.2.2.1 ∈ gtb ∧ Cond.initialized y_Land_priceOf.1.cls ∈ gtb ∧ y_Land_priceOf.1.cls ≠ "java/lang/invoke/MethodHandle" ∧ y_Land_priceOf.1.cls ≠ "java/lang/invoke/VarHandle" ∧ (parseMethodDescriptor y_Land_priceOf.1.desc).map (fun d => d.parameters.length) = some 1 := ⟨(gk_4 (List.mem_of_getElem? (i := 26) rfl) rfl), cz_Land, cx_Land.1, cx_Land.2, by decide +kernel⟩
set_option maxRecDepth 100000 in
theorem mo_Main_141 : mOk "CookedLaw" 141 1 y_Land_priceOf := ⟨Or.inl (gk_4 (List.mem_of_getElem? (i := 23) rfl) rfl), mk_Land_priceOf⟩
set_option maxRecDepth 100000 in
theorem mk_Land_dishForce : Cond.code y_Land_dishForce.1 y_Land_dishForce.2.1 y_Land_dishForce.2.2.1 y_Land_dishForce.2.2.2.1 ∈ gtb ∧ Cond.initialized y_Land_dishForce.1.cls ∈ gtb ∧ y_Land_dishForce.1.cls ≠ "java/lang/invoke/MethodHandle" ∧ y_Land_dishForce.1.cls ≠ "java/lang/invoke/VarHandle" ∧ (parseMethodDescriptor y_Land_dishForce.1.desc).map (fun d => d.parameters.length) = some 4 := ⟨(gk_4 (List.mem_of_getElem? (i := 30) rfl) rfl), cz_Land, cx_Land.1, cx_Land.2, by decide +kernel⟩
set_option maxRecDepth 100000 in
theorem mo_Main_147 : mOk "CookedLaw" 147 4 y_Land_dishForce := ⟨Or.inl (gk_4 (List.mem_of_getElem? (i := 27) rfl) rfl), mk_Land_dishForce⟩
set_option maxRecDepth 100000 in
theorem mk_Land_inDish : Cond.code y_Land_inDish.1 y_Land_inDish.2.1 y_Land_inDish.2.2.1 y_Land_inDish.2.2.2.1 ∈ gtb ∧ Cond.initialized y_Land_inDish.1.cls ∈ gtb ∧ y_Land_inDish.1.cls ≠ "java/lang/invoke/MethodHandle" ∧ y_Land_inDish.1.cls ≠ "java/lang/invoke/VarHandle" ∧ (parseMethodDescriptor y_Land_inDish.1.desc).map (fun d => d.parameters.length) = some 2 := ⟨(gk_3 (List.mem_of_getElem? (i := 150) rfl) rfl), cz_Land, cx_Land.1, cx_Land.2, by decide +kernel⟩
set_option maxRecDepth 100000 in
theorem mo_Main_154 : mOk "CookedLaw" 154 2 y_Land_inDish := ⟨Or.inl (gk_4 (List.mem_of_getElem? (i := 70) rfl) rfl), mk_Land_inDish⟩
set_option maxRecDepth 100000 in
theorem mk_State_hasEaten : Cond.code y_State_hasEaten.1 y_State_hasEaten.2.1 y_State_hasEaten.2.2.1 y_State_hasEaten.2.2.2.1 ∈ gtb ∧ Cond.initialized y_State_hasEaten.1.cls ∈ gtb ∧ y_State_hasEaten.1.cls ≠ "java/lang/invoke/MethodHandle" ∧ y_State_hasEaten.1.cls ≠ "java/lang/invoke/VarHandle" ∧ (parseMethodDescriptor y_State_hasEaten.1.desc).map (fun d => d.parameters.length) = some 1 := ⟨(gk_4 (List.mem_of_getElem? (i := 78) rfl) rfl), cz_State, cx_State.1, cx_State.2, by decide +kernel⟩
set_option maxRecDepth 100000 in
theorem mo_Main_163 : mOk "CookedLaw" 163 1 y_State_hasEaten := ⟨Or.inl (gk_4 (List.mem_of_getElem? (i := 75) rfl) rfl), mk_State_hasEaten⟩
set_option maxRecDepth 100000 in
theorem mk_State_agoOf : Cond.code y_State_agoOf.1 y_State_agoOf.2.1 y_State_agoOf.2.2.1 y_State_agoOf.2.2.2.1 ∈ gtb ∧ Cond.initialized y_State_agoOf.1.cls ∈ gtb ∧ y_State_agoOf.1.cls ≠ "java/lang/invoke/MethodHandle" ∧ y_State_agoOf.1.cls ≠ "java/lang/invoke/VarHandle" ∧ (parseMethodDescriptor y_State_agoOf.1.desc).map (fun d => d.parameters.length) = some 1 := ⟨(gk_4 (List.mem_of_getElem? (i := 82) rfl) rfl), cz_State, cx_State.1, cx_State.2, by decide +kernel⟩
set_option maxRecDepth 100000 in
theorem mo_Main_167 : mOk "CookedLaw" 167 1 y_State_agoOf := ⟨Or.inl (gk_4 (List.mem_of_getElem? (i := 79) rfl) rfl), mk_State_agoOf⟩
set_option maxRecDepth 100000 in
theorem mk_State_boundOf : Cond.code y_State_boundOf.1 y_State_boundOf.2.1 y_State_boundOf.2.2.1 y_State_boundOf.2.2.2.1 ∈ gtb ∧ Cond.initialized y_State_boundOf.1.cls ∈ gtb ∧ y_State_boundOf.1.cls ≠ "java/lang/invoke/MethodHandle" ∧ y_State_boundOf.1.cls ≠ "java/lang/invoke/VarHandle" ∧ (parseMethodDescriptor y_State_boundOf.1.desc).map (fun d => d.parameters.length) = some 4 := ⟨(gk_4 (List.mem_of_getElem? (i := 86) rfl) rfl), cz_State, cx_State.1, cx_State.2, by decide +kernel⟩
set_option maxRecDepth 100000 in
theorem mo_Main_173 : mOk "CookedLaw" 173 4 y_State_boundOf := ⟨Or.inl (gk_4 (List.mem_of_getElem? (i := 83) rfl) rfl), mk_State_boundOf⟩
set_option maxRecDepth 100000 in
theorem mk_Main_guestsFreeTo : Cond.code y_Main_guestsFreeTo.1 y_Main_guestsFreeTo.2.1 y_Main_guestsFreeTo.2.2.1 y_Main_guestsFreeTo.2.2.2.1 ∈ gtb ∧ Cond.initialized y_Main_guestsFreeTo.1.cls ∈ gtb ∧ y_Main_guestsFreeTo.1.cls ≠ "java/lang/invoke/MethodHandle" ∧ y_Main_guestsFreeTo.1.cls ≠ "java/lang/invoke/VarHandle" ∧ (parseMethodDescriptor y_Main_guestsFreeTo.1.desc).map (fun d => d.parameters.length) = some 1 := ⟨(gk_4 (List.mem_of_getElem? (i := 100) rfl) rfl), cz_Main, cx_Main.1, cx_Main.2, by decide +kernel⟩
set_option maxRecDepth 100000 in
theorem mo_Main_186 : mOk "CookedLaw" 186 1 y_Main_guestsFreeTo := ⟨Or.inl (gk_4 (List.mem_of_getElem? (i := 97) rfl) rfl), mk_Main_guestsFreeTo⟩
set_option maxRecDepth 100000 in
theorem mk_State_freeOf : Cond.code y_State_freeOf.1 y_State_freeOf.2.1 y_State_freeOf.2.2.1 y_State_freeOf.2.2.2.1 ∈ gtb ∧ Cond.initialized y_State_freeOf.1.cls ∈ gtb ∧ y_State_freeOf.1.cls ≠ "java/lang/invoke/MethodHandle" ∧ y_State_freeOf.1.cls ≠ "java/lang/invoke/VarHandle" ∧ (parseMethodDescriptor y_State_freeOf.1.desc).map (fun d => d.parameters.length) = some 3 := ⟨(gk_4 (List.mem_of_getElem? (i := 104) rfl) rfl), cz_State, cx_State.1, cx_State.2, by decide +kernel⟩
set_option maxRecDepth 100000 in
theorem mo_Main_189 : mOk "CookedLaw" 189 3 y_State_freeOf := ⟨Or.inl (gk_4 (List.mem_of_getElem? (i := 101) rfl) rfl), mk_State_freeOf⟩
set_option maxRecDepth 100000 in
theorem mk_Main_hasBit : Cond.code y_Main_hasBit.1 y_Main_hasBit.2.1 y_Main_hasBit.2.2.1 y_Main_hasBit.2.2.2.1 ∈ gtb ∧ Cond.initialized y_Main_hasBit.1.cls ∈ gtb ∧ y_Main_hasBit.1.cls ≠ "java/lang/invoke/MethodHandle" ∧ y_Main_hasBit.1.cls ≠ "java/lang/invoke/VarHandle" ∧ (parseMethodDescriptor y_Main_hasBit.1.desc).map (fun d => d.parameters.length) = some 2 := ⟨(gk_4 (List.mem_of_getElem? (i := 112) rfl) rfl), cz_Main, cx_Main.1, cx_Main.2, by decide +kernel⟩
set_option maxRecDepth 100000 in
theorem mo_Main_193 : mOk "CookedLaw" 193 2 y_Main_hasBit := ⟨Or.inl (gk_4 (List.mem_of_getElem? (i := 110) rfl) rfl), mk_Main_hasBit⟩
set_option maxRecDepth 100000 in
theorem mk_State_inStore : Cond.code y_State_inStore.1 y_State_inStore.2.1 y_State_inStore.2.2.1 y_State_inStore.2.2.2.1 ∈ gtb ∧ Cond.initialized y_State_inStore.1.cls ∈ gtb ∧ y_State_inStore.1.cls ≠ "java/lang/invoke/MethodHandle" ∧ y_State_inStore.1.cls ≠ "java/lang/invoke/VarHandle" ∧ (parseMethodDescriptor y_State_inStore.1.desc).map (fun d => d.parameters.length) = some 2 := ⟨(gk_4 (List.mem_of_getElem? (i := 120) rfl) rfl), cz_State, cx_State.1, cx_State.2, by decide +kernel⟩
set_option maxRecDepth 100000 in
theorem mo_Main_196 : mOk "CookedLaw" 196 2 y_State_inStore := ⟨Or.inl (gk_4 (List.mem_of_getElem? (i := 117) rfl) rfl), mk_State_inStore⟩
set_option maxRecDepth 100000 in
theorem mk_Past_keep : Cond.code y_Past_keep.1 y_Past_keep.2.1 y_Past_keep.2.2.1 y_Past_keep.2.2.2.1 ∈ gtb ∧ Cond.initialized y_Past_keep.1.cls ∈ gtb ∧ y_Past_keep.1.cls ≠ "java/lang/invoke/MethodHandle" ∧ y_Past_keep.1.cls ≠ "java/lang/invoke/VarHandle" ∧ (parseMethodDescriptor y_Past_keep.1.desc).map (fun d => d.parameters.length) = some 1 := ⟨(gk_4 (List.mem_of_getElem? (i := 125) rfl) rfl), cz_Past, cx_Past.1, cx_Past.2, by decide +kernel⟩
set_option maxRecDepth 100000 in
theorem mo_Main_200 : mOk "CookedLaw" 200 1 y_Past_keep := ⟨Or.inl (gk_4 (List.mem_of_getElem? (i := 122) rfl) rfl), mk_Past_keep⟩
set_option maxRecDepth 100000 in
theorem mk_State_cookOne : Cond.code y_State_cookOne.1 y_State_cookOne.2.1 y_State_cookOne.2.2.1 y_State_cookOne.2.2.2.1 ∈ gtb ∧ Cond.initialized y_State_cookOne.1.cls ∈ gtb ∧ y_State_cookOne.1.cls ≠ "java/lang/invoke/MethodHandle" ∧ y_State_cookOne.1.cls ≠ "java/lang/invoke/VarHandle" ∧ (parseMethodDescriptor y_State_cookOne.1.desc).map (fun d => d.parameters.length) = some 2 := ⟨(gk_4 (List.mem_of_getElem? (i := 137) rfl) rfl), cz_State, cx_State.1, cx_State.2, by decide +kernel⟩
set_option maxRecDepth 100000 in
theorem mo_Main_204 : mOk "CookedLaw" 204 2 y_State_cookOne := ⟨Or.inl (gk_4 (List.mem_of_getElem? (i := 134) rfl) rfl), mk_State_cookOne⟩
set_option maxRecDepth 100000 in
theorem mk_State_eatServed : Cond.code y_State_eatServed.1 y_State_eatServed.2.1 y_State_eatServed.2.2.1 y_State_eatServed.2.2.2.1 ∈ gtb ∧ Cond.initialized y_State_eatServed.1.cls ∈ gtb ∧ y_State_eatServed.1.cls ≠ "java/lang/invoke/MethodHandle" ∧ y_State_eatServed.1.cls ≠ "java/lang/invoke/VarHandle" ∧ (parseMethodDescriptor y_State_eatServed.1.desc).map (fun d => d.parameters.length) = some 1 := ⟨(gk_4 (List.mem_of_getElem? (i := 162) rfl) rfl), cz_State, cx_State.1, cx_State.2, by decide +kernel⟩
set_option maxRecDepth 100000 in
theorem mo_Main_211 : mOk "CookedLaw" 211 1 y_State_eatServed := ⟨Or.inl (gk_4 (List.mem_of_getElem? (i := 159) rfl) rfl), mk_State_eatServed⟩
set_option maxRecDepth 100000 in
theorem mk_State_passDays : Cond.code y_State_passDays.1 y_State_passDays.2.1 y_State_passDays.2.2.1 y_State_passDays.2.2.2.1 ∈ gtb ∧ Cond.initialized y_State_passDays.1.cls ∈ gtb ∧ y_State_passDays.1.cls ≠ "java/lang/invoke/MethodHandle" ∧ y_State_passDays.1.cls ≠ "java/lang/invoke/VarHandle" ∧ (parseMethodDescriptor y_State_passDays.1.desc).map (fun d => d.parameters.length) = some 2 := ⟨(gk_4 (List.mem_of_getElem? (i := 170) rfl) rfl), cz_State, cx_State.1, cx_State.2, by decide +kernel⟩
set_option maxRecDepth 100000 in
theorem mo_Main_214 : mOk "CookedLaw" 214 2 y_State_passDays := ⟨Or.inl (gk_4 (List.mem_of_getElem? (i := 167) rfl) rfl), mk_State_passDays⟩
set_option maxRecDepth 100000 in
theorem mk_Past_takeBack : Cond.code y_Past_takeBack.1 y_Past_takeBack.2.1 y_Past_takeBack.2.2.1 y_Past_takeBack.2.2.2.1 ∈ gtb ∧ Cond.initialized y_Past_takeBack.1.cls ∈ gtb ∧ y_Past_takeBack.1.cls ≠ "java/lang/invoke/MethodHandle" ∧ y_Past_takeBack.1.cls ≠ "java/lang/invoke/VarHandle" ∧ (parseMethodDescriptor y_Past_takeBack.1.desc).map (fun d => d.parameters.length) = some 1 := ⟨(gk_4 (List.mem_of_getElem? (i := 183) rfl) rfl), cz_Past, cx_Past.1, cx_Past.2, by decide +kernel⟩
set_option maxRecDepth 100000 in
theorem mo_Main_218 : mOk "CookedLaw" 218 1 y_Past_takeBack := ⟨Or.inl (gk_4 (List.mem_of_getElem? (i := 180) rfl) rfl), mk_Past_takeBack⟩
set_option maxRecDepth 100000 in
theorem mk_PotSearch_find : Cond.code y_PotSearch_find.1 y_PotSearch_find.2.1 y_PotSearch_find.2.2.1 y_PotSearch_find.2.2.2.1 ∈ gtb ∧ Cond.initialized y_PotSearch_find.1.cls ∈ gtb ∧ y_PotSearch_find.1.cls ≠ "java/lang/invoke/MethodHandle" ∧ y_PotSearch_find.1.cls ≠ "java/lang/invoke/VarHandle" ∧ (parseMethodDescriptor y_PotSearch_find.1.desc).map (fun d => d.parameters.length) = some 5 := ⟨(gk_4 (List.mem_of_getElem? (i := 191) rfl) rfl), cz_PotSearch, cx_PotSearch.1, cx_PotSearch.2, by decide +kernel⟩
set_option maxRecDepth 100000 in
theorem mo_Main_222 : mOk "CookedLaw" 222 5 y_PotSearch_find := ⟨Or.inl (gk_4 (List.mem_of_getElem? (i := 188) rfl) rfl), mk_PotSearch_find⟩
set_option maxRecDepth 100000 in
theorem mk_Main_changeBy : Cond.code y_Main_changeBy.1 y_Main_changeBy.2.1 y_Main_changeBy.2.2.1 y_Main_changeBy.2.2.2.1 ∈ gtb ∧ Cond.initialized y_Main_changeBy.1.cls ∈ gtb ∧ y_Main_changeBy.1.cls ≠ "java/lang/invoke/MethodHandle" ∧ y_Main_changeBy.1.cls ≠ "java/lang/invoke/VarHandle" ∧ (parseMethodDescriptor y_Main_changeBy.1.desc).map (fun d => d.parameters.length) = some 2 := ⟨(gk_4 (List.mem_of_getElem? (i := 230) rfl) rfl), cz_Main, cx_Main.1, cx_Main.2, by decide +kernel⟩
set_option maxRecDepth 100000 in
theorem mo_Main_235 : mOk "CookedLaw" 235 2 y_Main_changeBy := ⟨Or.inl (gk_4 (List.mem_of_getElem? (i := 227) rfl) rfl), mk_Main_changeBy⟩
set_option maxRecDepth 100000 in
theorem mk_Main_freestDish : Cond.code y_Main_freestDish.1 y_Main_freestDish.2.1 y_Main_freestDish.2.2.1 y_Main_freestDish.2.2.2.1 ∈ gtb ∧ Cond.initialized y_Main_freestDish.1.cls ∈ gtb ∧ y_Main_freestDish.1.cls ≠ "java/lang/invoke/MethodHandle" ∧ y_Main_freestDish.1.cls ≠ "java/lang/invoke/VarHandle" ∧ (parseMethodDescriptor y_Main_freestDish.1.desc).map (fun d => d.parameters.length) = some 1 := ⟨(gk_5 (List.mem_of_getElem? (i := 1) rfl) rfl), cz_Main, cx_Main.1, cx_Main.2, by decide +kernel⟩
set_option maxRecDepth 100000 in
theorem mo_Main_243 : mOk "CookedLaw" 243 1 y_Main_freestDish := ⟨Or.inl (gk_4 (List.mem_of_getElem? (i := 238) rfl) rfl), mk_Main_freestDish⟩
set_option maxRecDepth 100000 in
theorem mk_Main_freeBehind : Cond.code y_Main_freeBehind.1 y_Main_freeBehind.2.1 y_Main_freeBehind.2.2.1 y_Main_freeBehind.2.2.2.1 ∈ gtb ∧ Cond.initialized y_Main_freeBehind.1.cls ∈ gtb ∧ y_Main_freeBehind.1.cls ≠ "java/lang/invoke/MethodHandle" ∧ y_Main_freeBehind.1.cls ≠ "java/lang/invoke/VarHandle" ∧ (parseMethodDescriptor y_Main_freeBehind.1.desc).map (fun d => d.parameters.length) = some 2 := ⟨(gk_5 (List.mem_of_getElem? (i := 5) rfl) rfl), cz_Main, cx_Main.1, cx_Main.2, by decide +kernel⟩
set_option maxRecDepth 100000 in
theorem mo_Main_246 : mOk "CookedLaw" 246 2 y_Main_freeBehind := ⟨Or.inl (gk_5 (List.mem_of_getElem? (i := 2) rfl) rfl), mk_Main_freeBehind⟩
set_option maxRecDepth 100000 in
theorem mk_Int_bitCount : Cond.code y_Int_bitCount.1 y_Int_bitCount.2.1 y_Int_bitCount.2.2.1 y_Int_bitCount.2.2.2.1 ∈ gtb ∧ Cond.initialized y_Int_bitCount.1.cls ∈ gtb ∧ y_Int_bitCount.1.cls ≠ "java/lang/invoke/MethodHandle" ∧ y_Int_bitCount.1.cls ≠ "java/lang/invoke/VarHandle" ∧ (parseMethodDescriptor y_Int_bitCount.1.desc).map (fun d => d.parameters.length) = some 1 := ⟨(gk_5 (List.mem_of_getElem? (i := 16) rfl) rfl), cz_Int, cx_Int.1, cx_Int.2, by decide +kernel⟩
set_option maxRecDepth 100000 in
theorem mo_Main_249 : mOk "CookedLaw" 249 1 y_Int_bitCount := ⟨Or.inl (gk_5 (List.mem_of_getElem? (i := 14) rfl) rfl), mk_Int_bitCount⟩
set_option maxRecDepth 100000 in
theorem mk_Land_freeByDish : Cond.code y_Land_freeByDish.1 y_Land_freeByDish.2.1 y_Land_freeByDish.2.2.1 y_Land_freeByDish.2.2.2.1 ∈ gtb ∧ Cond.initialized y_Land_freeByDish.1.cls ∈ gtb ∧ y_Land_freeByDish.1.cls ≠ "java/lang/invoke/MethodHandle" ∧ y_Land_freeByDish.1.cls ≠ "java/lang/invoke/VarHandle" ∧ (parseMethodDescriptor y_Land_freeByDish.1.desc).map (fun d => d.parameters.length) = some 4 := ⟨(gk_5 (List.mem_of_getElem? (i := 9) rfl) rfl), cz_Land, cx_Land.1, cx_Land.2, by decide +kernel⟩
set_option maxRecDepth 100000 in
theorem mo_Main_254 : mOk "CookedLaw" 254 4 y_Land_freeByDish := ⟨Or.inl (gk_5 (List.mem_of_getElem? (i := 6) rfl) rfl), mk_Land_freeByDish⟩
set_option maxRecDepth 100000 in
theorem mk_MenuSearch_find : Cond.code y_MenuSearch_find.1 y_MenuSearch_find.2.1 y_MenuSearch_find.2.2.1 y_MenuSearch_find.2.2.2.1 ∈ gtb ∧ Cond.initialized y_MenuSearch_find.1.cls ∈ gtb ∧ y_MenuSearch_find.1.cls ≠ "java/lang/invoke/MethodHandle" ∧ y_MenuSearch_find.1.cls ≠ "java/lang/invoke/VarHandle" ∧ (parseMethodDescriptor y_MenuSearch_find.1.desc).map (fun d => d.parameters.length) = some 5 := ⟨(gk_5 (List.mem_of_getElem? (i := 35) rfl) rfl), cz_MenuSearch, cx_MenuSearch.1, cx_MenuSearch.2, by decide +kernel⟩
set_option maxRecDepth 100000 in
theorem mo_Main_257 : mOk "CookedLaw" 257 5 y_MenuSearch_find := ⟨Or.inl (gk_5 (List.mem_of_getElem? (i := 32) rfl) rfl), mk_MenuSearch_find⟩
set_option maxRecDepth 100000 in
theorem mk_State_copyFrom : Cond.code y_State_copyFrom.1 y_State_copyFrom.2.1 y_State_copyFrom.2.2.1 y_State_copyFrom.2.2.2.1 ∈ gtb ∧ Cond.initialized y_State_copyFrom.1.cls ∈ gtb ∧ y_State_copyFrom.1.cls ≠ "java/lang/invoke/MethodHandle" ∧ y_State_copyFrom.1.cls ≠ "java/lang/invoke/VarHandle" ∧ (parseMethodDescriptor y_State_copyFrom.1.desc).map (fun d => d.parameters.length) = some 1 := ⟨(gk_4 (List.mem_of_getElem? (i := 129) rfl) rfl), cz_State, cx_State.1, cx_State.2, by decide +kernel⟩
set_option maxRecDepth 100000 in
theorem mo_Main_262 : mOk "CookedLaw" 262 1 y_State_copyFrom := ⟨Or.inl (gk_5 (List.mem_of_getElem? (i := 69) rfl) rfl), mk_State_copyFrom⟩
set_option maxRecDepth 100000 in
theorem mk_State_slipInto : Cond.code y_State_slipInto.1 y_State_slipInto.2.1 y_State_slipInto.2.2.1 y_State_slipInto.2.2.2.1 ∈ gtb ∧ Cond.initialized y_State_slipInto.1.cls ∈ gtb ∧ y_State_slipInto.1.cls ≠ "java/lang/invoke/MethodHandle" ∧ y_State_slipInto.1.cls ≠ "java/lang/invoke/VarHandle" ∧ (parseMethodDescriptor y_State_slipInto.1.desc).map (fun d => d.parameters.length) = some 3 := ⟨(gk_4 (List.mem_of_getElem? (i := 141) rfl) rfl), cz_State, cx_State.1, cx_State.2, by decide +kernel⟩
set_option maxRecDepth 100000 in
theorem mo_Main_268 : mOk "CookedLaw" 268 3 y_State_slipInto := ⟨Or.inl (gk_5 (List.mem_of_getElem? (i := 86) rfl) rfl), mk_State_slipInto⟩
set_option maxRecDepth 100000 in
theorem mk_Told_add : Cond.code y_Told_add.1 y_Told_add.2.1 y_Told_add.2.2.1 y_Told_add.2.2.2.1 ∈ gtb ∧ Cond.initialized y_Told_add.1.cls ∈ gtb ∧ y_Told_add.1.cls ≠ "java/lang/invoke/MethodHandle" ∧ y_Told_add.1.cls ≠ "java/lang/invoke/VarHandle" ∧ (parseMethodDescriptor y_Told_add.1.desc).map (fun d => d.parameters.length) = some 3 := ⟨(gk_5 (List.mem_of_getElem? (i := 94) rfl) rfl), cz_Told, cx_Told.1, cx_Told.2, by decide +kernel⟩
set_option maxRecDepth 100000 in
theorem mo_Main_271 : mOk "CookedLaw" 271 3 y_Told_add := ⟨Or.inl (gk_5 (List.mem_of_getElem? (i := 91) rfl) rfl), mk_Told_add⟩
set_option maxRecDepth 100000 in
theorem mk_Told_gather : Cond.code y_Told_gather.1 y_Told_gather.2.1 y_Told_gather.2.2.1 y_Told_gather.2.2.2.1 ∈ gtb ∧ Cond.initialized y_Told_gather.1.cls ∈ gtb ∧ y_Told_gather.1.cls ≠ "java/lang/invoke/MethodHandle" ∧ y_Told_gather.1.cls ≠ "java/lang/invoke/VarHandle" ∧ (parseMethodDescriptor y_Told_gather.1.desc).map (fun d => d.parameters.length) = some 3 := ⟨(gk_5 (List.mem_of_getElem? (i := 107) rfl) rfl), cz_Told, cx_Told.1, cx_Told.2, by decide +kernel⟩
set_option maxRecDepth 100000 in
theorem mo_Main_278 : mOk "CookedLaw" 278 3 y_Told_gather := ⟨Or.inl (gk_5 (List.mem_of_getElem? (i := 104) rfl) rfl), mk_Told_gather⟩
set_option maxRecDepth 100000 in
theorem mk_Told_onlyDish : Cond.code y_Told_onlyDish.1 y_Told_onlyDish.2.1 y_Told_onlyDish.2.2.1 y_Told_onlyDish.2.2.2.1 ∈ gtb ∧ Cond.initialized y_Told_onlyDish.1.cls ∈ gtb ∧ y_Told_onlyDish.1.cls ≠ "java/lang/invoke/MethodHandle" ∧ y_Told_onlyDish.1.cls ≠ "java/lang/invoke/VarHandle" ∧ (parseMethodDescriptor y_Told_onlyDish.1.desc).map (fun d => d.parameters.length) = some 0 := ⟨(gk_5 (List.mem_of_getElem? (i := 133) rfl) rfl), cz_Told, cx_Told.1, cx_Told.2, by decide +kernel⟩
set_option maxRecDepth 100000 in
theorem mo_Main_285 : mOk "CookedLaw" 285 0 y_Told_onlyDish := ⟨Or.inl (gk_5 (List.mem_of_getElem? (i := 130) rfl) rfl), mk_Told_onlyDish⟩
set_option maxRecDepth 100000 in
theorem mk_Told_nextTaste : Cond.code y_Told_nextTaste.1 y_Told_nextTaste.2.1 y_Told_nextTaste.2.2.1 y_Told_nextTaste.2.2.2.1 ∈ gtb ∧ Cond.initialized y_Told_nextTaste.1.cls ∈ gtb ∧ y_Told_nextTaste.1.cls ≠ "java/lang/invoke/MethodHandle" ∧ y_Told_nextTaste.1.cls ≠ "java/lang/invoke/VarHandle" ∧ (parseMethodDescriptor y_Told_nextTaste.1.desc).map (fun d => d.parameters.length) = some 2 := ⟨(gk_5 (List.mem_of_getElem? (i := 141) rfl) rfl), cz_Told, cx_Told.1, cx_Told.2, by decide +kernel⟩
set_option maxRecDepth 100000 in
theorem mo_Main_288 : mOk "CookedLaw" 288 2 y_Told_nextTaste := ⟨Or.inl (gk_5 (List.mem_of_getElem? (i := 138) rfl) rfl), mk_Told_nextTaste⟩
set_option maxRecDepth 100000 in
theorem mk_Slots_keep : Cond.code y_Slots_keep.1 y_Slots_keep.2.1 y_Slots_keep.2.2.1 y_Slots_keep.2.2.2.1 ∈ gtb ∧ Cond.initialized y_Slots_keep.1.cls ∈ gtb ∧ y_Slots_keep.1.cls ≠ "java/lang/invoke/MethodHandle" ∧ y_Slots_keep.1.cls ≠ "java/lang/invoke/VarHandle" ∧ (parseMethodDescriptor y_Slots_keep.1.desc).map (fun d => d.parameters.length) = some 2 := ⟨(gk_5 (List.mem_of_getElem? (i := 155) rfl) rfl), cz_Slots, cx_Slots.1, cx_Slots.2, by decide +kernel⟩
set_option maxRecDepth 100000 in
theorem mo_Main_291 : mOk "CookedLaw" 291 2 y_Slots_keep := ⟨Or.inl (gk_5 (List.mem_of_getElem? (i := 152) rfl) rfl), mk_Slots_keep⟩
set_option maxRecDepth 100000 in
theorem mk_Slots_bring : Cond.code y_Slots_bring.1 y_Slots_bring.2.1 y_Slots_bring.2.2.1 y_Slots_bring.2.2.2.1 ∈ gtb ∧ Cond.initialized y_Slots_bring.1.cls ∈ gtb ∧ y_Slots_bring.1.cls ≠ "java/lang/invoke/MethodHandle" ∧ y_Slots_bring.1.cls ≠ "java/lang/invoke/VarHandle" ∧ (parseMethodDescriptor y_Slots_bring.1.desc).map (fun d => d.parameters.length) = some 2 := ⟨(gk_5 (List.mem_of_getElem? (i := 164) rfl) rfl), cz_Slots, cx_Slots.1, cx_Slots.2, by decide +kernel⟩
set_option maxRecDepth 100000 in
theorem mo_Main_294 : mOk "CookedLaw" 294 2 y_Slots_bring := ⟨Or.inl (gk_5 (List.mem_of_getElem? (i := 161) rfl) rfl), mk_Slots_bring⟩
set_option maxRecDepth 100000 in
theorem mk_Slots_full : Cond.code y_Slots_full.1 y_Slots_full.2.1 y_Slots_full.2.2.1 y_Slots_full.2.2.2.1 ∈ gtb ∧ Cond.initialized y_Slots_full.1.cls ∈ gtb ∧ y_Slots_full.1.cls ≠ "java/lang/invoke/MethodHandle" ∧ y_Slots_full.1.cls ≠ "java/lang/invoke/VarHandle" ∧ (parseMethodDescriptor y_Slots_full.1.desc).map (fun d => d.parameters.length) = some 0 := ⟨(gk_5 (List.mem_of_getElem? (i := 173) rfl) rfl), cz_Slots, cx_Slots.1, cx_Slots.2, by decide +kernel⟩
set_option maxRecDepth 100000 in
theorem mo_Main_304 : mOk "CookedLaw" 304 0 y_Slots_full := ⟨Or.inl (gk_5 (List.mem_of_getElem? (i := 170) rfl) rfl), mk_Slots_full⟩
set_option maxRecDepth 100000 in
theorem mk_State_allMeals : Cond.code y_State_allMeals.1 y_State_allMeals.2.1 y_State_allMeals.2.2.1 y_State_allMeals.2.2.2.1 ∈ gtb ∧ Cond.initialized y_State_allMeals.1.cls ∈ gtb ∧ y_State_allMeals.1.cls ≠ "java/lang/invoke/MethodHandle" ∧ y_State_allMeals.1.cls ≠ "java/lang/invoke/VarHandle" ∧ (parseMethodDescriptor y_State_allMeals.1.desc).map (fun d => d.parameters.length) = some 0 := ⟨(gk_5 (List.mem_of_getElem? (i := 178) rfl) rfl), cz_State, cx_State.1, cx_State.2, by decide +kernel⟩
set_option maxRecDepth 100000 in
theorem mo_Main_310 : mOk "CookedLaw" 310 0 y_State_allMeals := ⟨Or.inl (gk_5 (List.mem_of_getElem? (i := 175) rfl) rfl), mk_State_allMeals⟩
set_option maxRecDepth 100000 in
theorem mk_Law_init : Cond.code y_Law_init.1 y_Law_init.2.1 y_Law_init.2.2.1 y_Law_init.2.2.2.1 ∈ gtb ∧ Cond.initialized y_Law_init.1.cls ∈ gtb ∧ y_Law_init.1.cls ≠ "java/lang/invoke/MethodHandle" ∧ y_Law_init.1.cls ≠ "java/lang/invoke/VarHandle" ∧ (parseMethodDescriptor y_Law_init.1.desc).map (fun d => d.parameters.length) = some 0 := ⟨(gk_1 (List.mem_of_getElem? (i := 173) rfl) rfl), cz_Law, cx_Law.1, cx_Law.2, by decide +kernel⟩
set_option maxRecDepth 100000 in
theorem mo_Land_38 : mOk "CookedLaw$Land" 38 0 y_Law_init := ⟨Or.inr ⟨"CookedLaw", (tk_1 (List.mem_of_getElem? (i := 171) rfl))⟩, mk_Law_init⟩
set_option maxRecDepth 100000 in
theorem mk_Main_wipe : Cond.code y_Main_wipe.1 y_Main_wipe.2.1 y_Main_wipe.2.2.1 y_Main_wipe.2.2.2.1 ∈ gtb ∧ Cond.initialized y_Main_wipe.1.cls ∈ gtb ∧ y_Main_wipe.1.cls ≠ "java/lang/invoke/MethodHandle" ∧ y_Main_wipe.1.cls ≠ "java/lang/invoke/VarHandle" ∧ (parseMethodDescriptor y_Main_wipe.1.desc).map (fun d => d.parameters.length) = some 1 := ⟨(gk_3 (List.mem_of_getElem? (i := 90) rfl) rfl), cz_Main, cx_Main.1, cx_Main.2, by decide +kernel⟩
set_option maxRecDepth 100000 in
theorem mo_Land_71 : mOk "CookedLaw$Land" 71 1 y_Main_wipe := ⟨Or.inr ⟨"CookedLaw", (tk_3 (List.mem_of_getElem? (i := 88) rfl))⟩, mk_Main_wipe⟩
set_option maxRecDepth 100000 in
theorem mk_Law_clear : Cond.code y_Law_clear.1 y_Law_clear.2.1 y_Law_clear.2.2.1 y_Law_clear.2.2.2.1 ∈ gtb ∧ Cond.initialized y_Law_clear.1.cls ∈ gtb ∧ y_Law_clear.1.cls ≠ "java/lang/invoke/MethodHandle" ∧ y_Law_clear.1.cls ≠ "java/lang/invoke/VarHandle" ∧ (parseMethodDescriptor y_Law_clear.1.desc).map (fun d => d.parameters.length) = some 0 := ⟨(gk_3 (List.mem_of_getElem? (i := 94) rfl) rfl), cz_Law, cx_Law.1, cx_Law.2, by decide +kernel⟩
set_option maxRecDepth 100000 in
theorem mo_Land_75 : mOk "CookedLaw$Land" 75 0 y_Law_clear := ⟨Or.inl (gk_3 (List.mem_of_getElem? (i := 91) rfl) rfl), mk_Law_clear⟩
set_option maxRecDepth 100000 in
theorem mo_Land_78 : mOk "CookedLaw$Land" 78 2 y_Main_at := ⟨Or.inr ⟨"CookedLaw", (tk_3 (List.mem_of_getElem? (i := 151) rfl))⟩, mk_Main_at⟩
set_option maxRecDepth 100000 in
theorem mo_Land_82 : mOk "CookedLaw$Land" 82 2 y_Land_inDish := ⟨Or.inl (gk_4 (List.mem_of_getElem? (i := 22) rfl) rfl), mk_Land_inDish⟩
set_option maxRecDepth 100000 in
theorem mo_Land_86 : mOk "CookedLaw$Land" 86 2 y_Land_broughtBy := ⟨Or.inl (gk_4 (List.mem_of_getElem? (i := 35) rfl) rfl), mk_Land_broughtBy⟩
set_option maxRecDepth 100000 in
theorem mk_Law_isTold : Cond.code y_Law_isTold.1 y_Law_isTold.2.1 y_Law_isTold.2.2.1 y_Law_isTold.2.2.2.1 ∈ gtb ∧ Cond.initialized y_Law_isTold.1.cls ∈ gtb ∧ y_Law_isTold.1.cls ≠ "java/lang/invoke/MethodHandle" ∧ y_Law_isTold.1.cls ≠ "java/lang/invoke/VarHandle" ∧ (parseMethodDescriptor y_Law_isTold.1.desc).map (fun d => d.parameters.length) = some 0 := ⟨(gk_4 (List.mem_of_getElem? (i := 44) rfl) rfl), cz_Law, cx_Law.1, cx_Law.2, by decide +kernel⟩
set_option maxRecDepth 100000 in
theorem mo_Land_89 : mOk "CookedLaw$Land" 89 0 y_Law_isTold := ⟨Or.inl (gk_4 (List.mem_of_getElem? (i := 41) rfl) rfl), mk_Law_isTold⟩
set_option maxRecDepth 100000 in
theorem mk_Main_within : Cond.code y_Main_within.1 y_Main_within.2.1 y_Main_within.2.2.1 y_Main_within.2.2.2.1 ∈ gtb ∧ Cond.initialized y_Main_within.1.cls ∈ gtb ∧ y_Main_within.1.cls ≠ "java/lang/invoke/MethodHandle" ∧ y_Main_within.1.cls ≠ "java/lang/invoke/VarHandle" ∧ (parseMethodDescriptor y_Main_within.1.desc).map (fun d => d.parameters.length) = some 3 := ⟨(gk_4 (List.mem_of_getElem? (i := 47) rfl) rfl), cz_Main, cx_Main.1, cx_Main.2, by decide +kernel⟩
set_option maxRecDepth 100000 in
theorem mo_Land_93 : mOk "CookedLaw$Land" 93 3 y_Main_within := ⟨Or.inr ⟨"CookedLaw", (tk_4 (List.mem_of_getElem? (i := 45) rfl))⟩, mk_Main_within⟩
set_option maxRecDepth 100000 in
theorem mk_Law_let : Cond.code y_Law_let.1 y_Law_let.2.1 y_Law_let.2.2.1 y_Law_let.2.2.2.1 ∈ gtb ∧ Cond.initialized y_Law_let.1.cls ∈ gtb ∧ y_Law_let.1.cls ≠ "java/lang/invoke/MethodHandle" ∧ y_Law_let.1.cls ≠ "java/lang/invoke/VarHandle" ∧ (parseMethodDescriptor y_Law_let.1.desc).map (fun d => d.parameters.length) = some 2 := ⟨(gk_4 (List.mem_of_getElem? (i := 57) rfl) rfl), cz_Law, cx_Law.1, cx_Law.2, by decide +kernel⟩
set_option maxRecDepth 100000 in
theorem mo_Land_97 : mOk "CookedLaw$Land" 97 2 y_Law_let := ⟨Or.inl (gk_4 (List.mem_of_getElem? (i := 54) rfl) rfl), mk_Law_let⟩
set_option maxRecDepth 100000 in
theorem mk_Law_value : Cond.code y_Law_value.1 y_Law_value.2.1 y_Law_value.2.2.1 y_Law_value.2.2.2.1 ∈ gtb ∧ Cond.initialized y_Law_value.1.cls ∈ gtb ∧ y_Law_value.1.cls ≠ "java/lang/invoke/MethodHandle" ∧ y_Law_value.1.cls ≠ "java/lang/invoke/VarHandle" ∧ (parseMethodDescriptor y_Law_value.1.desc).map (fun d => d.parameters.length) = some 0 := ⟨(gk_4 (List.mem_of_getElem? (i := 61) rfl) rfl), cz_Law, cx_Law.1, cx_Law.2, by decide +kernel⟩
set_option maxRecDepth 100000 in
theorem mo_Land_101 : mOk "CookedLaw$Land" 101 0 y_Law_value := ⟨Or.inl (gk_4 (List.mem_of_getElem? (i := 58) rfl) rfl), mk_Law_value⟩
set_option maxRecDepth 100000 in
theorem mk_Land_sumOf : Cond.code y_Land_sumOf.1 y_Land_sumOf.2.1 y_Land_sumOf.2.2.1 y_Land_sumOf.2.2.2.1 ∈ gtb ∧ Cond.initialized y_Land_sumOf.1.cls ∈ gtb ∧ y_Land_sumOf.1.cls ≠ "java/lang/invoke/MethodHandle" ∧ y_Land_sumOf.1.cls ≠ "java/lang/invoke/VarHandle" ∧ (parseMethodDescriptor y_Land_sumOf.1.desc).map (fun d => d.parameters.length) = some 2 := ⟨(gk_4 (List.mem_of_getElem? (i := 34) rfl) rfl), cz_Land, cx_Land.1, cx_Land.2, by decide +kernel⟩
set_option maxRecDepth 100000 in
theorem mo_Land_105 : mOk "CookedLaw$Land" 105 2 y_Land_sumOf := ⟨Or.inl (gk_4 (List.mem_of_getElem? (i := 31) rfl) rfl), mk_Land_sumOf⟩
set_option maxRecDepth 100000 in
theorem mo_Land_108 : mOk "CookedLaw$Land" 108 1 y_Land_manyIn := ⟨Or.inl (gk_4 (List.mem_of_getElem? (i := 36) rfl) rfl), mk_Land_manyIn⟩
set_option maxRecDepth 100000 in
theorem mk_Land_potForce : Cond.code y_Land_potForce.1 y_Land_potForce.2.1 y_Land_potForce.2.2.1 y_Land_potForce.2.2.2.1 ∈ gtb ∧ Cond.initialized y_Land_potForce.1.cls ∈ gtb ∧ y_Land_potForce.1.cls ≠ "java/lang/invoke/MethodHandle" ∧ y_Land_potForce.1.cls ≠ "java/lang/invoke/VarHandle" ∧ (parseMethodDescriptor y_Land_potForce.1.desc).map (fun d => d.parameters.length) = some 5 := ⟨(gk_4 (List.mem_of_getElem? (i := 40) rfl) rfl), cz_Land, cx_Land.1, cx_Land.2, by decide +kernel⟩
set_option maxRecDepth 100000 in
theorem mo_Land_112 : mOk "CookedLaw$Land" 112 5 y_Land_potForce := ⟨Or.inl (gk_4 (List.mem_of_getElem? (i := 37) rfl) rfl), mk_Land_potForce⟩
set_option maxRecDepth 100000 in
theorem mo_Land_116 : mOk "CookedLaw$Land" 116 4 y_Land_dishForce := ⟨Or.inl (gk_5 (List.mem_of_getElem? (i := 10) rfl) rfl), mk_Land_dishForce⟩
set_option maxRecDepth 100000 in
theorem mk_Main_put : Cond.code y_Main_put.1 y_Main_put.2.1 y_Main_put.2.2.1 y_Main_put.2.2.2.1 ∈ gtb ∧ Cond.initialized y_Main_put.1.cls ∈ gtb ∧ y_Main_put.1.cls ≠ "java/lang/invoke/MethodHandle" ∧ y_Main_put.1.cls ≠ "java/lang/invoke/VarHandle" ∧ (parseMethodDescriptor y_Main_put.1.desc).map (fun d => d.parameters.length) = some 3 := ⟨(gk_3 (List.mem_of_getElem? (i := 32) rfl) rfl), cz_Main, cx_Main.1, cx_Main.2, by decide +kernel⟩
set_option maxRecDepth 100000 in
theorem mo_Land_120 : mOk "CookedLaw$Land" 120 3 y_Main_put := ⟨Or.inr ⟨"CookedLaw", (tk_5 (List.mem_of_getElem? (i := 11) rfl))⟩, mk_Main_put⟩
set_option maxRecDepth 100000 in
theorem mk_Land_boundBy : Cond.code y_Land_boundBy.1 y_Land_boundBy.2.1 y_Land_boundBy.2.2.1 y_Land_boundBy.2.2.2.1 ∈ gtb ∧ Cond.initialized y_Land_boundBy.1.cls ∈ gtb ∧ y_Land_boundBy.1.cls ≠ "java/lang/invoke/MethodHandle" ∧ y_Land_boundBy.1.cls ≠ "java/lang/invoke/VarHandle" ∧ (parseMethodDescriptor y_Land_boundBy.1.desc).map (fun d => d.parameters.length) = some 5 := ⟨(gk_4 (List.mem_of_getElem? (i := 92) rfl) rfl), cz_Land, cx_Land.1, cx_Land.2, by decide +kernel⟩
set_option maxRecDepth 100000 in
theorem mo_Land_124 : mOk "CookedLaw$Land" 124 5 y_Land_boundBy := ⟨Or.inl (gk_5 (List.mem_of_getElem? (i := 12) rfl) rfl), mk_Land_boundBy⟩
set_option maxRecDepth 100000 in
theorem mk_Land_freeUnder : Cond.code y_Land_freeUnder.1 y_Land_freeUnder.2.1 y_Land_freeUnder.2.2.1 y_Land_freeUnder.2.2.2.1 ∈ gtb ∧ Cond.initialized y_Land_freeUnder.1.cls ∈ gtb ∧ y_Land_freeUnder.1.cls ≠ "java/lang/invoke/MethodHandle" ∧ y_Land_freeUnder.1.cls ≠ "java/lang/invoke/VarHandle" ∧ (parseMethodDescriptor y_Land_freeUnder.1.desc).map (fun d => d.parameters.length) = some 2 := ⟨(gk_4 (List.mem_of_getElem? (i := 109) rfl) rfl), cz_Land, cx_Land.1, cx_Land.2, by decide +kernel⟩
set_option maxRecDepth 100000 in
theorem mo_Land_127 : mOk "CookedLaw$Land" 127 2 y_Land_freeUnder := ⟨Or.inl (gk_5 (List.mem_of_getElem? (i := 13) rfl) rfl), mk_Land_freeUnder⟩
set_option maxRecDepth 100000 in
theorem mk_Land_stirred : Cond.code y_Land_stirred.1 y_Land_stirred.2.1 y_Land_stirred.2.2.1 y_Land_stirred.2.2.2.1 ∈ gtb ∧ Cond.initialized y_Land_stirred.1.cls ∈ gtb ∧ y_Land_stirred.1.cls ≠ "java/lang/invoke/MethodHandle" ∧ y_Land_stirred.1.cls ≠ "java/lang/invoke/VarHandle" ∧ (parseMethodDescriptor y_Land_stirred.1.desc).map (fun d => d.parameters.length) = some 2 := ⟨(gk_4 (List.mem_of_getElem? (i := 147) rfl) rfl), cz_Land, cx_Land.1, cx_Land.2, by decide +kernel⟩
set_option maxRecDepth 100000 in
theorem mo_Land_130 : mOk "CookedLaw$Land" 130 2 y_Land_stirred := ⟨Or.inl (gk_4 (List.mem_of_getElem? (i := 145) rfl) rfl), mk_Land_stirred⟩
set_option maxRecDepth 100000 in
theorem mo_Law_25 : mOk "CookedLaw$Law" 25 3 y_Main_put := ⟨Or.inr ⟨"CookedLaw", (tk_3 (List.mem_of_getElem? (i := 208) rfl))⟩, mk_Main_put⟩
set_option maxRecDepth 100000 in
theorem mk_Law_add : Cond.code y_Law_add.1 y_Law_add.2.1 y_Law_add.2.2.1 y_Law_add.2.2.2.1 ∈ gtb ∧ Cond.initialized y_Law_add.1.cls ∈ gtb ∧ y_Law_add.1.cls ≠ "java/lang/invoke/MethodHandle" ∧ y_Law_add.1.cls ≠ "java/lang/invoke/VarHandle" ∧ (parseMethodDescriptor y_Law_add.1.desc).map (fun d => d.parameters.length) = some 1 := ⟨(gk_3 (List.mem_of_getElem? (i := 180) rfl) rfl), cz_Law, cx_Law.1, cx_Law.2, by decide +kernel⟩
set_option maxRecDepth 100000 in
theorem mo_Law_29 : mOk "CookedLaw$Law" 29 1 y_Law_add := ⟨Or.inl (gk_3 (List.mem_of_getElem? (i := 203) rfl) rfl), mk_Law_add⟩
set_option maxRecDepth 100000 in
theorem mo_Law_33 : mOk "CookedLaw$Law" 33 2 y_Main_at := ⟨Or.inr ⟨"CookedLaw", (tk_4 (List.mem_of_getElem? (i := 62) rfl))⟩, mk_Main_at⟩
set_option maxRecDepth 100000 in
theorem mk_Law_reckon : Cond.code y_Law_reckon.1 y_Law_reckon.2.1 y_Law_reckon.2.2.1 y_Law_reckon.2.2.2.1 ∈ gtb ∧ Cond.initialized y_Law_reckon.1.cls ∈ gtb ∧ y_Law_reckon.1.cls ≠ "java/lang/invoke/MethodHandle" ∧ y_Law_reckon.1.cls ≠ "java/lang/invoke/VarHandle" ∧ (parseMethodDescriptor y_Law_reckon.1.desc).map (fun d => d.parameters.length) = some 3 := ⟨(gk_4 (List.mem_of_getElem? (i := 65) rfl) rfl), cz_Law, cx_Law.1, cx_Law.2, by decide +kernel⟩
set_option maxRecDepth 100000 in
theorem mo_Law_37 : mOk "CookedLaw$Law" 37 3 y_Law_reckon := ⟨Or.inl (gk_4 (List.mem_of_getElem? (i := 63) rfl) rfl), mk_Law_reckon⟩
set_option maxRecDepth 100000 in
theorem mk_MenuSearch_lookUnfed : Cond.code y_MenuSearch_lookUnfed.1 y_MenuSearch_lookUnfed.2.1 y_MenuSearch_lookUnfed.2.2.1 y_MenuSearch_lookUnfed.2.2.2.1 ∈ gtb ∧ Cond.initialized y_MenuSearch_lookUnfed.1.cls ∈ gtb ∧ y_MenuSearch_lookUnfed.1.cls ≠ "java/lang/invoke/MethodHandle" ∧ y_MenuSearch_lookUnfed.1.cls ≠ "java/lang/invoke/VarHandle" ∧ (parseMethodDescriptor y_MenuSearch_lookUnfed.1.desc).map (fun d => d.parameters.length) = some 4 := ⟨(gk_5 (List.mem_of_getElem? (i := 39) rfl) rfl), cz_MenuSearch, cx_MenuSearch.1, cx_MenuSearch.2, by decide +kernel⟩
set_option maxRecDepth 100000 in
theorem mo_MenuSearch_25 : mOk "CookedLaw$MenuSearch" 25 4 y_MenuSearch_lookUnfed := ⟨Or.inl (gk_5 (List.mem_of_getElem? (i := 36) rfl) rfl), mk_MenuSearch_lookUnfed⟩
set_option maxRecDepth 100000 in
theorem mk_MenuSearch_lookFed : Cond.code y_MenuSearch_lookFed.1 y_MenuSearch_lookFed.2.1 y_MenuSearch_lookFed.2.2.1 y_MenuSearch_lookFed.2.2.2.1 ∈ gtb ∧ Cond.initialized y_MenuSearch_lookFed.1.cls ∈ gtb ∧ y_MenuSearch_lookFed.1.cls ≠ "java/lang/invoke/MethodHandle" ∧ y_MenuSearch_lookFed.1.cls ≠ "java/lang/invoke/VarHandle" ∧ (parseMethodDescriptor y_MenuSearch_lookFed.1.desc).map (fun d => d.parameters.length) = some 5 := ⟨(gk_5 (List.mem_of_getElem? (i := 44) rfl) rfl), cz_MenuSearch, cx_MenuSearch.1, cx_MenuSearch.2, by decide +kernel⟩
set_option maxRecDepth 100000 in
theorem mo_MenuSearch_35 : mOk "CookedLaw$MenuSearch" 35 5 y_MenuSearch_lookFed := ⟨Or.inl (gk_5 (List.mem_of_getElem? (i := 41) rfl) rfl), mk_MenuSearch_lookFed⟩
set_option maxRecDepth 100000 in
theorem mo_MenuSearch_39 : mOk "CookedLaw$MenuSearch" 39 1 y_Main_wipe := ⟨Or.inr ⟨"CookedLaw", (tk_5 (List.mem_of_getElem? (i := 49) rfl))⟩, mk_Main_wipe⟩
set_option maxRecDepth 100000 in
theorem mk_MenuSearch_mealsIfAllFree : Cond.code y_MenuSearch_mealsIfAllFree.1 y_MenuSearch_mealsIfAllFree.2.1 y_MenuSearch_mealsIfAllFree.2.2.1 y_MenuSearch_mealsIfAllFree.2.2.2.1 ∈ gtb ∧ Cond.initialized y_MenuSearch_mealsIfAllFree.1.cls ∈ gtb ∧ y_MenuSearch_mealsIfAllFree.1.cls ≠ "java/lang/invoke/MethodHandle" ∧ y_MenuSearch_mealsIfAllFree.1.cls ≠ "java/lang/invoke/VarHandle" ∧ (parseMethodDescriptor y_MenuSearch_mealsIfAllFree.1.desc).map (fun d => d.parameters.length) = some 1 := ⟨(gk_5 (List.mem_of_getElem? (i := 53) rfl) rfl), cz_MenuSearch, cx_MenuSearch.1, cx_MenuSearch.2, by decide +kernel⟩
set_option maxRecDepth 100000 in
theorem mo_MenuSearch_46 : mOk "CookedLaw$MenuSearch" 46 1 y_MenuSearch_mealsIfAllFree := ⟨Or.inl (gk_5 (List.mem_of_getElem? (i := 50) rfl) rfl), mk_MenuSearch_mealsIfAllFree⟩
set_option maxRecDepth 100000 in
theorem mk_Main_copyRow : Cond.code y_Main_copyRow.1 y_Main_copyRow.2.1 y_Main_copyRow.2.2.1 y_Main_copyRow.2.2.2.1 ∈ gtb ∧ Cond.initialized y_Main_copyRow.1.cls ∈ gtb ∧ y_Main_copyRow.1.cls ≠ "java/lang/invoke/MethodHandle" ∧ y_Main_copyRow.1.cls ≠ "java/lang/invoke/VarHandle" ∧ (parseMethodDescriptor y_Main_copyRow.1.desc).map (fun d => d.parameters.length) = some 2 := ⟨(gk_4 (List.mem_of_getElem? (i := 132) rfl) rfl), cz_Main, cx_Main.1, cx_Main.2, by decide +kernel⟩
set_option maxRecDepth 100000 in
theorem mo_MenuSearch_50 : mOk "CookedLaw$MenuSearch" 50 2 y_Main_copyRow := ⟨Or.inr ⟨"CookedLaw", (tk_5 (List.mem_of_getElem? (i := 59) rfl))⟩, mk_Main_copyRow⟩
set_option maxRecDepth 100000 in
theorem mk_MenuSearch_step : Cond.code y_MenuSearch_step.1 y_MenuSearch_step.2.1 y_MenuSearch_step.2.2.1 y_MenuSearch_step.2.2.2.1 ∈ gtb ∧ Cond.initialized y_MenuSearch_step.1.cls ∈ gtb ∧ y_MenuSearch_step.1.cls ≠ "java/lang/invoke/MethodHandle" ∧ y_MenuSearch_step.1.cls ≠ "java/lang/invoke/VarHandle" ∧ (parseMethodDescriptor y_MenuSearch_step.1.desc).map (fun d => d.parameters.length) = some 2 := ⟨(gk_5 (List.mem_of_getElem? (i := 63) rfl) rfl), cz_MenuSearch, cx_MenuSearch.1, cx_MenuSearch.2, by decide +kernel⟩
set_option maxRecDepth 100000 in
theorem mo_MenuSearch_59 : mOk "CookedLaw$MenuSearch" 59 2 y_MenuSearch_step := ⟨Or.inl (gk_5 (List.mem_of_getElem? (i := 60) rfl) rfl), mk_MenuSearch_step⟩
set_option maxRecDepth 100000 in
theorem mo_MenuSearch_63 : mOk "CookedLaw$MenuSearch" 63 3 y_State_freeOf := ⟨Or.inl (gk_5 (List.mem_of_getElem? (i := 40) rfl) rfl), mk_State_freeOf⟩
set_option maxRecDepth 100000 in
theorem mo_MenuSearch_67 : mOk "CookedLaw$MenuSearch" 67 4 y_Land_freeByDish := ⟨Or.inl (gk_5 (List.mem_of_getElem? (i := 45) rfl) rfl), mk_Land_freeByDish⟩
set_option maxRecDepth 100000 in
theorem mk_MenuSearch_indexOf : Cond.code y_MenuSearch_indexOf.1 y_MenuSearch_indexOf.2.1 y_MenuSearch_indexOf.2.2.1 y_MenuSearch_indexOf.2.2.2.1 ∈ gtb ∧ Cond.initialized y_MenuSearch_indexOf.1.cls ∈ gtb ∧ y_MenuSearch_indexOf.1.cls ≠ "java/lang/invoke/MethodHandle" ∧ y_MenuSearch_indexOf.1.cls ≠ "java/lang/invoke/VarHandle" ∧ (parseMethodDescriptor y_MenuSearch_indexOf.1.desc).map (fun d => d.parameters.length) = some 3 := ⟨(gk_5 (List.mem_of_getElem? (i := 48) rfl) rfl), cz_MenuSearch, cx_MenuSearch.1, cx_MenuSearch.2, by decide +kernel⟩
set_option maxRecDepth 100000 in
theorem mo_MenuSearch_71 : mOk "CookedLaw$MenuSearch" 71 3 y_MenuSearch_indexOf := ⟨Or.inl (gk_5 (List.mem_of_getElem? (i := 46) rfl) rfl), mk_MenuSearch_indexOf⟩
set_option maxRecDepth 100000 in
theorem mo_MenuSearch_75 : mOk "CookedLaw$MenuSearch" 75 2 y_Main_at := ⟨Or.inr ⟨"CookedLaw", (tk_5 (List.mem_of_getElem? (i := 54) rfl))⟩, mk_Main_at⟩
set_option maxRecDepth 100000 in
theorem mk_MenuSearch_isFree : Cond.code y_MenuSearch_isFree.1 y_MenuSearch_isFree.2.1 y_MenuSearch_isFree.2.2.1 y_MenuSearch_isFree.2.2.2.1 ∈ gtb ∧ Cond.initialized y_MenuSearch_isFree.1.cls ∈ gtb ∧ y_MenuSearch_isFree.1.cls ≠ "java/lang/invoke/MethodHandle" ∧ y_MenuSearch_isFree.1.cls ≠ "java/lang/invoke/VarHandle" ∧ (parseMethodDescriptor y_MenuSearch_isFree.1.desc).map (fun d => d.parameters.length) = some 3 := ⟨(gk_5 (List.mem_of_getElem? (i := 58) rfl) rfl), cz_MenuSearch, cx_MenuSearch.1, cx_MenuSearch.2, by decide +kernel⟩
set_option maxRecDepth 100000 in
theorem mo_MenuSearch_79 : mOk "CookedLaw$MenuSearch" 79 3 y_MenuSearch_isFree := ⟨Or.inl (gk_5 (List.mem_of_getElem? (i := 55) rfl) rfl), mk_MenuSearch_isFree⟩
set_option maxRecDepth 100000 in
theorem mo_MenuSearch_83 : mOk "CookedLaw$MenuSearch" 83 3 y_Main_put := ⟨Or.inr ⟨"CookedLaw", (tk_5 (List.mem_of_getElem? (i := 64) rfl))⟩, mk_Main_put⟩
set_option maxRecDepth 100000 in
theorem mo_Past_17 : mOk "CookedLaw$Past" 17 0 y_State_init := ⟨Or.inr ⟨"CookedLaw", (tk_2 (List.mem_of_getElem? (i := 94) rfl))⟩, mk_State_init⟩
set_option maxRecDepth 100000 in
theorem mo_Past_25 : mOk "CookedLaw$Past" 25 1 y_State_copyFrom := ⟨Or.inl (gk_4 (List.mem_of_getElem? (i := 126) rfl) rfl), mk_State_copyFrom⟩
set_option maxRecDepth 100000 in
theorem mo_PotSearch_24 : mOk "CookedLaw$PotSearch" 24 3 y_Main_put := ⟨Or.inr ⟨"CookedLaw", (tk_4 (List.mem_of_getElem? (i := 192) rfl))⟩, mk_Main_put⟩
set_option maxRecDepth 100000 in
theorem mk_Law_looksAt : Cond.code y_Law_looksAt.1 y_Law_looksAt.2.1 y_Law_looksAt.2.2.1 y_Law_looksAt.2.2.2.1 ∈ gtb ∧ Cond.initialized y_Law_looksAt.1.cls ∈ gtb ∧ y_Law_looksAt.1.cls ≠ "java/lang/invoke/MethodHandle" ∧ y_Law_looksAt.1.cls ≠ "java/lang/invoke/VarHandle" ∧ (parseMethodDescriptor y_Law_looksAt.1.desc).map (fun d => d.parameters.length) = some 1 := ⟨(gk_4 (List.mem_of_getElem? (i := 196) rfl) rfl), cz_Law, cx_Law.1, cx_Law.2, by decide +kernel⟩
set_option maxRecDepth 100000 in
theorem mo_PotSearch_38 : mOk "CookedLaw$PotSearch" 38 1 y_Law_looksAt := ⟨Or.inl (gk_4 (List.mem_of_getElem? (i := 193) rfl) rfl), mk_Law_looksAt⟩
set_option maxRecDepth 100000 in
theorem mk_PotSearch_fillFrom : Cond.code y_PotSearch_fillFrom.1 y_PotSearch_fillFrom.2.1 y_PotSearch_fillFrom.2.2.1 y_PotSearch_fillFrom.2.2.2.1 ∈ gtb ∧ Cond.initialized y_PotSearch_fillFrom.1.cls ∈ gtb ∧ y_PotSearch_fillFrom.1.cls ≠ "java/lang/invoke/MethodHandle" ∧ y_PotSearch_fillFrom.1.cls ≠ "java/lang/invoke/VarHandle" ∧ (parseMethodDescriptor y_PotSearch_fillFrom.1.desc).map (fun d => d.parameters.length) = some 3 := ⟨(gk_4 (List.mem_of_getElem? (i := 200) rfl) rfl), cz_PotSearch, cx_PotSearch.1, cx_PotSearch.2, by decide +kernel⟩
set_option maxRecDepth 100000 in
theorem mo_PotSearch_48 : mOk "CookedLaw$PotSearch" 48 3 y_PotSearch_fillFrom := ⟨Or.inl (gk_4 (List.mem_of_getElem? (i := 197) rfl) rfl), mk_PotSearch_fillFrom⟩
set_option maxRecDepth 100000 in
theorem mk_PotSearch_weigh : Cond.code y_PotSearch_weigh.1 y_PotSearch_weigh.2.1 y_PotSearch_weigh.2.2.1 y_PotSearch_weigh.2.2.2.1 ∈ gtb ∧ Cond.initialized y_PotSearch_weigh.1.cls ∈ gtb ∧ y_PotSearch_weigh.1.cls ≠ "java/lang/invoke/MethodHandle" ∧ y_PotSearch_weigh.1.cls ≠ "java/lang/invoke/VarHandle" ∧ (parseMethodDescriptor y_PotSearch_weigh.1.desc).map (fun d => d.parameters.length) = some 1 := ⟨(gk_4 (List.mem_of_getElem? (i := 206) rfl) rfl), cz_PotSearch, cx_PotSearch.1, cx_PotSearch.2, by decide +kernel⟩
set_option maxRecDepth 100000 in
theorem mo_PotSearch_52 : mOk "CookedLaw$PotSearch" 52 1 y_PotSearch_weigh := ⟨Or.inl (gk_4 (List.mem_of_getElem? (i := 203) rfl) rfl), mk_PotSearch_weigh⟩
set_option maxRecDepth 100000 in
theorem mk_PotSearch_tryHeats : Cond.code y_PotSearch_tryHeats.1 y_PotSearch_tryHeats.2.1 y_PotSearch_tryHeats.2.2.1 y_PotSearch_tryHeats.2.2.2.1 ∈ gtb ∧ Cond.initialized y_PotSearch_tryHeats.1.cls ∈ gtb ∧ y_PotSearch_tryHeats.1.cls ≠ "java/lang/invoke/MethodHandle" ∧ y_PotSearch_tryHeats.1.cls ≠ "java/lang/invoke/VarHandle" ∧ (parseMethodDescriptor y_PotSearch_tryHeats.1.desc).map (fun d => d.parameters.length) = some 2 := ⟨(gk_4 (List.mem_of_getElem? (i := 212) rfl) rfl), cz_PotSearch, cx_PotSearch.1, cx_PotSearch.2, by decide +kernel⟩
set_option maxRecDepth 100000 in
theorem mo_PotSearch_64 : mOk "CookedLaw$PotSearch" 64 2 y_PotSearch_tryHeats := ⟨Or.inl (gk_4 (List.mem_of_getElem? (i := 209) rfl) rfl), mk_PotSearch_tryHeats⟩
set_option maxRecDepth 100000 in
theorem mk_PotSearch_stepDown : Cond.code y_PotSearch_stepDown.1 y_PotSearch_stepDown.2.1 y_PotSearch_stepDown.2.2.1 y_PotSearch_stepDown.2.2.2.1 ∈ gtb ∧ Cond.initialized y_PotSearch_stepDown.1.cls ∈ gtb ∧ y_PotSearch_stepDown.1.cls ≠ "java/lang/invoke/MethodHandle" ∧ y_PotSearch_stepDown.1.cls ≠ "java/lang/invoke/VarHandle" ∧ (parseMethodDescriptor y_PotSearch_stepDown.1.desc).map (fun d => d.parameters.length) = some 1 := ⟨(gk_4 (List.mem_of_getElem? (i := 222) rfl) rfl), cz_PotSearch, cx_PotSearch.1, cx_PotSearch.2, by decide +kernel⟩
set_option maxRecDepth 100000 in
theorem mo_PotSearch_68 : mOk "CookedLaw$PotSearch" 68 1 y_PotSearch_stepDown := ⟨Or.inl (gk_4 (List.mem_of_getElem? (i := 219) rfl) rfl), mk_PotSearch_stepDown⟩
set_option maxRecDepth 100000 in
theorem mo_PotSearch_75 : mOk "CookedLaw$PotSearch" 75 2 y_Main_at := ⟨Or.inr ⟨"CookedLaw", (tk_4 (List.mem_of_getElem? (i := 201) rfl))⟩, mk_Main_at⟩
set_option maxRecDepth 100000 in
theorem mo_PotSearch_85 : mOk "CookedLaw$PotSearch" 85 1 y_Main_wipe := ⟨Or.inr ⟨"CookedLaw", (tk_4 (List.mem_of_getElem? (i := 207) rfl))⟩, mk_Main_wipe⟩
set_option maxRecDepth 100000 in
theorem mo_PotSearch_94 : mOk "CookedLaw$PotSearch" 94 2 y_Land_broughtBy := ⟨Or.inl (gk_4 (List.mem_of_getElem? (i := 208) rfl) rfl), mk_Land_broughtBy⟩
set_option maxRecDepth 100000 in
theorem mk_PotSearch_isEnough : Cond.code y_PotSearch_isEnough.1 y_PotSearch_isEnough.2.1 y_PotSearch_isEnough.2.2.1 y_PotSearch_isEnough.2.2.2.1 ∈ gtb ∧ Cond.initialized y_PotSearch_isEnough.1.cls ∈ gtb ∧ y_PotSearch_isEnough.1.cls ≠ "java/lang/invoke/MethodHandle" ∧ y_PotSearch_isEnough.1.cls ≠ "java/lang/invoke/VarHandle" ∧ (parseMethodDescriptor y_PotSearch_isEnough.1.desc).map (fun d => d.parameters.length) = some 3 := ⟨(gk_4 (List.mem_of_getElem? (i := 216) rfl) rfl), cz_PotSearch, cx_PotSearch.1, cx_PotSearch.2, by decide +kernel⟩
set_option maxRecDepth 100000 in
theorem mo_PotSearch_106 : mOk "CookedLaw$PotSearch" 106 3 y_PotSearch_isEnough := ⟨Or.inl (gk_4 (List.mem_of_getElem? (i := 213) rfl) rfl), mk_PotSearch_isEnough⟩
set_option maxRecDepth 100000 in
theorem mo_PotSearch_110 : mOk "CookedLaw$PotSearch" 110 2 y_Main_copyRow := ⟨Or.inr ⟨"CookedLaw", (tk_4 (List.mem_of_getElem? (i := 218) rfl))⟩, mk_Main_copyRow⟩
set_option maxRecDepth 100000 in
theorem mo_PotSearch_114 : mOk "CookedLaw$PotSearch" 114 5 y_Land_potForce := ⟨Or.inl (gk_4 (List.mem_of_getElem? (i := 217) rfl) rfl), mk_Land_potForce⟩
set_option maxRecDepth 100000 in
theorem mk_Tokens_init : Cond.code y_Tokens_init.1 y_Tokens_init.2.1 y_Tokens_init.2.2.1 y_Tokens_init.2.2.2.1 ∈ gtb ∧ Cond.initialized y_Tokens_init.1.cls ∈ gtb ∧ y_Tokens_init.1.cls ≠ "java/lang/invoke/MethodHandle" ∧ y_Tokens_init.1.cls ≠ "java/lang/invoke/VarHandle" ∧ (parseMethodDescriptor y_Tokens_init.1.desc).map (fun d => d.parameters.length) = some 0 := ⟨(gk_1 (List.mem_of_getElem? (i := 54) rfl) rfl), cz_Tokens, cx_Tokens.1, cx_Tokens.2, by decide +kernel⟩
set_option maxRecDepth 100000 in
theorem mo_Reader_11 : mOk "CookedLaw$Reader" 11 0 y_Tokens_init := ⟨Or.inl (gk_1 (List.mem_of_getElem? (i := 52) rfl) rfl), mk_Tokens_init⟩
set_option maxRecDepth 100000 in
theorem mk_Tokens_cut : Cond.code y_Tokens_cut.1 y_Tokens_cut.2.1 y_Tokens_cut.2.2.1 y_Tokens_cut.2.2.2.1 ∈ gtb ∧ Cond.initialized y_Tokens_cut.1.cls ∈ gtb ∧ y_Tokens_cut.1.cls ≠ "java/lang/invoke/MethodHandle" ∧ y_Tokens_cut.1.cls ≠ "java/lang/invoke/VarHandle" ∧ (parseMethodDescriptor y_Tokens_cut.1.desc).map (fun d => d.parameters.length) = some 1 := ⟨(gk_3 (List.mem_of_getElem? (i := 48) rfl) rfl), cz_Tokens, cx_Tokens.1, cx_Tokens.2, by decide +kernel⟩
set_option maxRecDepth 100000 in
theorem mo_Reader_29 : mOk "CookedLaw$Reader" 29 1 y_Tokens_cut := ⟨Or.inl (gk_3 (List.mem_of_getElem? (i := 45) rfl) rfl), mk_Tokens_cut⟩
set_option maxRecDepth 100000 in
theorem mk_Land_clear : Cond.code y_Land_clear.1 y_Land_clear.2.1 y_Land_clear.2.2.1 y_Land_clear.2.2.2.1 ∈ gtb ∧ Cond.initialized y_Land_clear.1.cls ∈ gtb ∧ y_Land_clear.1.cls ≠ "java/lang/invoke/MethodHandle" ∧ y_Land_clear.1.cls ≠ "java/lang/invoke/VarHandle" ∧ (parseMethodDescriptor y_Land_clear.1.desc).map (fun d => d.parameters.length) = some 0 := ⟨(gk_3 (List.mem_of_getElem? (i := 87) rfl) rfl), cz_Land, cx_Land.1, cx_Land.2, by decide +kernel⟩
set_option maxRecDepth 100000 in
theorem mo_Reader_33 : mOk "CookedLaw$Reader" 33 0 y_Land_clear := ⟨Or.inl (gk_3 (List.mem_of_getElem? (i := 84) rfl) rfl), mk_Land_clear⟩
set_option maxRecDepth 100000 in
theorem mk_Reader_is : Cond.code y_Reader_is.1 y_Reader_is.2.1 y_Reader_is.2.2.1 y_Reader_is.2.2.2.1 ∈ gtb ∧ Cond.initialized y_Reader_is.1.cls ∈ gtb ∧ y_Reader_is.1.cls ≠ "java/lang/invoke/MethodHandle" ∧ y_Reader_is.1.cls ≠ "java/lang/invoke/VarHandle" ∧ (parseMethodDescriptor y_Reader_is.1.desc).map (fun d => d.parameters.length) = some 1 := ⟨(gk_3 (List.mem_of_getElem? (i := 98) rfl) rfl), cz_Reader, cx_Reader.1, cx_Reader.2, by decide +kernel⟩
set_option maxRecDepth 100000 in
theorem mo_Reader_51 : mOk "CookedLaw$Reader" 51 1 y_Reader_is := ⟨Or.inl (gk_3 (List.mem_of_getElem? (i := 95) rfl) rfl), mk_Reader_is⟩
set_option maxRecDepth 100000 in
theorem mo_Reader_58 : mOk "CookedLaw$Reader" 58 2 y_Main_at := ⟨Or.inr ⟨"CookedLaw", (tk_3 (List.mem_of_getElem? (i := 99) rfl))⟩, mk_Main_at⟩
set_option maxRecDepth 100000 in
theorem mk_Reader_takeFood : Cond.code y_Reader_takeFood.1 y_Reader_takeFood.2.1 y_Reader_takeFood.2.2.1 y_Reader_takeFood.2.2.2.1 ∈ gtb ∧ Cond.initialized y_Reader_takeFood.1.cls ∈ gtb ∧ y_Reader_takeFood.1.cls ≠ "java/lang/invoke/MethodHandle" ∧ y_Reader_takeFood.1.cls ≠ "java/lang/invoke/VarHandle" ∧ (parseMethodDescriptor y_Reader_takeFood.1.desc).map (fun d => d.parameters.length) = some 1 := ⟨(gk_3 (List.mem_of_getElem? (i := 105) rfl) rfl), cz_Reader, cx_Reader.1, cx_Reader.2, by decide +kernel⟩
set_option maxRecDepth 100000 in
theorem mo_Reader_62 : mOk "CookedLaw$Reader" 62 1 y_Reader_takeFood := ⟨Or.inl (gk_3 (List.mem_of_getElem? (i := 102) rfl) rfl), mk_Reader_takeFood⟩
set_option maxRecDepth 100000 in
theorem mk_Reader_takeDish : Cond.code y_Reader_takeDish.1 y_Reader_takeDish.2.1 y_Reader_takeDish.2.2.1 y_Reader_takeDish.2.2.2.1 ∈ gtb ∧ Cond.initialized y_Reader_takeDish.1.cls ∈ gtb ∧ y_Reader_takeDish.1.cls ≠ "java/lang/invoke/MethodHandle" ∧ y_Reader_takeDish.1.cls ≠ "java/lang/invoke/VarHandle" ∧ (parseMethodDescriptor y_Reader_takeDish.1.desc).map (fun d => d.parameters.length) = some 1 := ⟨(gk_3 (List.mem_of_getElem? (i := 142) rfl) rfl), cz_Reader, cx_Reader.1, cx_Reader.2, by decide +kernel⟩
set_option maxRecDepth 100000 in
theorem mo_Reader_66 : mOk "CookedLaw$Reader" 66 1 y_Reader_takeDish := ⟨Or.inl (gk_3 (List.mem_of_getElem? (i := 139) rfl) rfl), mk_Reader_takeDish⟩
set_option maxRecDepth 100000 in
theorem mk_Reader_takeGuest : Cond.code y_Reader_takeGuest.1 y_Reader_takeGuest.2.1 y_Reader_takeGuest.2.2.1 y_Reader_takeGuest.2.2.2.1 ∈ gtb ∧ Cond.initialized y_Reader_takeGuest.1.cls ∈ gtb ∧ y_Reader_takeGuest.1.cls ≠ "java/lang/invoke/MethodHandle" ∧ y_Reader_takeGuest.1.cls ≠ "java/lang/invoke/VarHandle" ∧ (parseMethodDescriptor y_Reader_takeGuest.1.desc).map (fun d => d.parameters.length) = some 1 := ⟨(gk_3 (List.mem_of_getElem? (i := 155) rfl) rfl), cz_Reader, cx_Reader.1, cx_Reader.2, by decide +kernel⟩
set_option maxRecDepth 100000 in
theorem mo_Reader_69 : mOk "CookedLaw$Reader" 69 1 y_Reader_takeGuest := ⟨Or.inl (gk_3 (List.mem_of_getElem? (i := 152) rfl) rfl), mk_Reader_takeGuest⟩
set_option maxRecDepth 100000 in
theorem mk_Reader_takeDeed : Cond.code y_Reader_takeDeed.1 y_Reader_takeDeed.2.1 y_Reader_takeDeed.2.2.1 y_Reader_takeDeed.2.2.2.1 ∈ gtb ∧ Cond.initialized y_Reader_takeDeed.1.cls ∈ gtb ∧ y_Reader_takeDeed.1.cls ≠ "java/lang/invoke/MethodHandle" ∧ y_Reader_takeDeed.1.cls ≠ "java/lang/invoke/VarHandle" ∧ (parseMethodDescriptor y_Reader_takeDeed.1.desc).map (fun d => d.parameters.length) = some 1 := ⟨(gk_3 (List.mem_of_getElem? (i := 159) rfl) rfl), cz_Reader, cx_Reader.1, cx_Reader.2, by decide +kernel⟩
set_option maxRecDepth 100000 in
theorem mo_Reader_72 : mOk "CookedLaw$Reader" 72 1 y_Reader_takeDeed := ⟨Or.inl (gk_3 (List.mem_of_getElem? (i := 156) rfl) rfl), mk_Reader_takeDeed⟩
set_option maxRecDepth 100000 in
theorem mk_Reader_takeLaw : Cond.code y_Reader_takeLaw.1 y_Reader_takeLaw.2.1 y_Reader_takeLaw.2.2.1 y_Reader_takeLaw.2.2.2.1 ∈ gtb ∧ Cond.initialized y_Reader_takeLaw.1.cls ∈ gtb ∧ y_Reader_takeLaw.1.cls ≠ "java/lang/invoke/MethodHandle" ∧ y_Reader_takeLaw.1.cls ≠ "java/lang/invoke/VarHandle" ∧ (parseMethodDescriptor y_Reader_takeLaw.1.desc).map (fun d => d.parameters.length) = some 1 := ⟨(gk_3 (List.mem_of_getElem? (i := 163) rfl) rfl), cz_Reader, cx_Reader.1, cx_Reader.2, by decide +kernel⟩
set_option maxRecDepth 100000 in
theorem mo_Reader_79 : mOk "CookedLaw$Reader" 79 1 y_Reader_takeLaw := ⟨Or.inl (gk_3 (List.mem_of_getElem? (i := 160) rfl) rfl), mk_Reader_takeLaw⟩
set_option maxRecDepth 100000 in
theorem mk_Reader_takeSeed : Cond.code y_Reader_takeSeed.1 y_Reader_takeSeed.2.1 y_Reader_takeSeed.2.2.1 y_Reader_takeSeed.2.2.2.1 ∈ gtb ∧ Cond.initialized y_Reader_takeSeed.1.cls ∈ gtb ∧ y_Reader_takeSeed.1.cls ≠ "java/lang/invoke/MethodHandle" ∧ y_Reader_takeSeed.1.cls ≠ "java/lang/invoke/VarHandle" ∧ (parseMethodDescriptor y_Reader_takeSeed.1.desc).map (fun d => d.parameters.length) = some 1 := ⟨(gk_3 (List.mem_of_getElem? (i := 212) rfl) rfl), cz_Reader, cx_Reader.1, cx_Reader.2, by decide +kernel⟩
set_option maxRecDepth 100000 in
theorem mo_Reader_92 : mOk "CookedLaw$Reader" 92 1 y_Reader_takeSeed := ⟨Or.inl (gk_3 (List.mem_of_getElem? (i := 209) rfl) rfl), mk_Reader_takeSeed⟩
set_option maxRecDepth 100000 in
theorem mk_Reader_stop : Cond.code y_Reader_stop.1 y_Reader_stop.2.1 y_Reader_stop.2.2.1 y_Reader_stop.2.2.2.1 ∈ gtb ∧ Cond.initialized y_Reader_stop.1.cls ∈ gtb ∧ y_Reader_stop.1.cls ≠ "java/lang/invoke/MethodHandle" ∧ y_Reader_stop.1.cls ≠ "java/lang/invoke/VarHandle" ∧ (parseMethodDescriptor y_Reader_stop.1.desc).map (fun d => d.parameters.length) = some 1 := ⟨(gk_3 (List.mem_of_getElem? (i := 109) rfl) rfl), cz_Reader, cx_Reader.1, cx_Reader.2, by decide +kernel⟩
set_option maxRecDepth 100000 in
theorem mo_Reader_95 : mOk "CookedLaw$Reader" 95 1 y_Reader_stop := ⟨Or.inl (gk_3 (List.mem_of_getElem? (i := 106) rfl) rfl), mk_Reader_stop⟩
set_option maxRecDepth 100000 in
theorem mk_Reader_take : Cond.code y_Reader_take.1 y_Reader_take.2.1 y_Reader_take.2.2.1 y_Reader_take.2.2.2.1 ∈ gtb ∧ Cond.initialized y_Reader_take.1.cls ∈ gtb ∧ y_Reader_take.1.cls ≠ "java/lang/invoke/MethodHandle" ∧ y_Reader_take.1.cls ≠ "java/lang/invoke/VarHandle" ∧ (parseMethodDescriptor y_Reader_take.1.desc).map (fun d => d.parameters.length) = some 0 := ⟨(gk_3 (List.mem_of_getElem? (i := 113) rfl) rfl), cz_Reader, cx_Reader.1, cx_Reader.2, by decide +kernel⟩
set_option maxRecDepth 100000 in
theorem mo_Reader_108 : mOk "CookedLaw$Reader" 108 0 y_Reader_take := ⟨Or.inl (gk_3 (List.mem_of_getElem? (i := 110) rfl) rfl), mk_Reader_take⟩
set_option maxRecDepth 100000 in
theorem mk_Tokens_valueAt : Cond.code y_Tokens_valueAt.1 y_Tokens_valueAt.2.1 y_Tokens_valueAt.2.2.1 y_Tokens_valueAt.2.2.2.1 ∈ gtb ∧ Cond.initialized y_Tokens_valueAt.1.cls ∈ gtb ∧ y_Tokens_valueAt.1.cls ≠ "java/lang/invoke/MethodHandle" ∧ y_Tokens_valueAt.1.cls ≠ "java/lang/invoke/VarHandle" ∧ (parseMethodDescriptor y_Tokens_valueAt.1.desc).map (fun d => d.parameters.length) = some 1 := ⟨(gk_3 (List.mem_of_getElem? (i := 121) rfl) rfl), cz_Tokens, cx_Tokens.1, cx_Tokens.2, by decide +kernel⟩
set_option maxRecDepth 100000 in
theorem mo_Reader_111 : mOk "CookedLaw$Reader" 111 1 y_Tokens_valueAt := ⟨Or.inl (gk_3 (List.mem_of_getElem? (i := 118) rfl) rfl), mk_Tokens_valueAt⟩
set_option maxRecDepth 100000 in
theorem mk_Reader_stopLate : Cond.code y_Reader_stopLate.1 y_Reader_stopLate.2.1 y_Reader_stopLate.2.2.1 y_Reader_stopLate.2.2.2.1 ∈ gtb ∧ Cond.initialized y_Reader_stopLate.1.cls ∈ gtb ∧ y_Reader_stopLate.1.cls ≠ "java/lang/invoke/MethodHandle" ∧ y_Reader_stopLate.1.cls ≠ "java/lang/invoke/VarHandle" ∧ (parseMethodDescriptor y_Reader_stopLate.1.desc).map (fun d => d.parameters.length) = some 1 := ⟨(gk_3 (List.mem_of_getElem? (i := 129) rfl) rfl), cz_Reader, cx_Reader.1, cx_Reader.2, by decide +kernel⟩
set_option maxRecDepth 100000 in
theorem mo_Reader_115 : mOk "CookedLaw$Reader" 115 1 y_Reader_stopLate := ⟨Or.inl (gk_3 (List.mem_of_getElem? (i := 126) rfl) rfl), mk_Reader_stopLate⟩
set_option maxRecDepth 100000 in
theorem mk_Reader_need : Cond.code y_Reader_need.1 y_Reader_need.2.1 y_Reader_need.2.2.1 y_Reader_need.2.2.2.1 ∈ gtb ∧ Cond.initialized y_Reader_need.1.cls ∈ gtb ∧ y_Reader_need.1.cls ≠ "java/lang/invoke/MethodHandle" ∧ y_Reader_need.1.cls ≠ "java/lang/invoke/VarHandle" ∧ (parseMethodDescriptor y_Reader_need.1.desc).map (fun d => d.parameters.length) = some 1 := ⟨(gk_3 (List.mem_of_getElem? (i := 133) rfl) rfl), cz_Reader, cx_Reader.1, cx_Reader.2, by decide +kernel⟩
set_option maxRecDepth 100000 in
theorem mo_Reader_118 : mOk "CookedLaw$Reader" 118 1 y_Reader_need := ⟨Or.inl (gk_3 (List.mem_of_getElem? (i := 130) rfl) rfl), mk_Reader_need⟩
set_option maxRecDepth 100000 in
theorem mk_Reader_indexOf : Cond.code y_Reader_indexOf.1 y_Reader_indexOf.2.1 y_Reader_indexOf.2.2.1 y_Reader_indexOf.2.2.2.1 ∈ gtb ∧ Cond.initialized y_Reader_indexOf.1.cls ∈ gtb ∧ y_Reader_indexOf.1.cls ≠ "java/lang/invoke/MethodHandle" ∧ y_Reader_indexOf.1.cls ≠ "java/lang/invoke/VarHandle" ∧ (parseMethodDescriptor y_Reader_indexOf.1.desc).map (fun d => d.parameters.length) = some 1 := ⟨(gk_3 (List.mem_of_getElem? (i := 125) rfl) rfl), cz_Reader, cx_Reader.1, cx_Reader.2, by decide +kernel⟩
set_option maxRecDepth 100000 in
theorem mo_Reader_121 : mOk "CookedLaw$Reader" 121 1 y_Reader_indexOf := ⟨Or.inl (gk_3 (List.mem_of_getElem? (i := 122) rfl) rfl), mk_Reader_indexOf⟩
set_option maxRecDepth 100000 in
theorem mk_Reader_takeNewName : Cond.code y_Reader_takeNewName.1 y_Reader_takeNewName.2.1 y_Reader_takeNewName.2.2.1 y_Reader_takeNewName.2.2.2.1 ∈ gtb ∧ Cond.initialized y_Reader_takeNewName.1.cls ∈ gtb ∧ y_Reader_takeNewName.1.cls ≠ "java/lang/invoke/MethodHandle" ∧ y_Reader_takeNewName.1.cls ≠ "java/lang/invoke/VarHandle" ∧ (parseMethodDescriptor y_Reader_takeNewName.1.desc).map (fun d => d.parameters.length) = some 1 := ⟨(gk_3 (List.mem_of_getElem? (i := 117) rfl) rfl), cz_Reader, cx_Reader.1, cx_Reader.2, by decide +kernel⟩
set_option maxRecDepth 100000 in
theorem mo_Reader_128 : mOk "CookedLaw$Reader" 128 1 y_Reader_takeNewName := ⟨Or.inl (gk_3 (List.mem_of_getElem? (i := 114) rfl) rfl), mk_Reader_takeNewName⟩
set_option maxRecDepth 100000 in
theorem mk_Reader_takeInt : Cond.code y_Reader_takeInt.1 y_Reader_takeInt.2.1 y_Reader_takeInt.2.2.1 y_Reader_takeInt.2.2.2.1 ∈ gtb ∧ Cond.initialized y_Reader_takeInt.1.cls ∈ gtb ∧ y_Reader_takeInt.1.cls ≠ "java/lang/invoke/MethodHandle" ∧ y_Reader_takeInt.1.cls ≠ "java/lang/invoke/VarHandle" ∧ (parseMethodDescriptor y_Reader_takeInt.1.desc).map (fun d => d.parameters.length) = some 1 := ⟨(gk_3 (List.mem_of_getElem? (i := 137) rfl) rfl), cz_Reader, cx_Reader.1, cx_Reader.2, by decide +kernel⟩
set_option maxRecDepth 100000 in
theorem mo_Reader_134 : mOk "CookedLaw$Reader" 134 1 y_Reader_takeInt := ⟨Or.inl (gk_3 (List.mem_of_getElem? (i := 134) rfl) rfl), mk_Reader_takeInt⟩
set_option maxRecDepth 100000 in
theorem mo_Reader_138 : mOk "CookedLaw$Reader" 138 3 y_Main_put := ⟨Or.inr ⟨"CookedLaw", (tk_3 (List.mem_of_getElem? (i := 138) rfl))⟩, mk_Main_put⟩
set_option maxRecDepth 100000 in
theorem mk_Reader_takeIngredient : Cond.code y_Reader_takeIngredient.1 y_Reader_takeIngredient.2.1 y_Reader_takeIngredient.2.2.1 y_Reader_takeIngredient.2.2.2.1 ∈ gtb ∧ Cond.initialized y_Reader_takeIngredient.1.cls ∈ gtb ∧ y_Reader_takeIngredient.1.cls ≠ "java/lang/invoke/MethodHandle" ∧ y_Reader_takeIngredient.1.cls ≠ "java/lang/invoke/VarHandle" ∧ (parseMethodDescriptor y_Reader_takeIngredient.1.desc).map (fun d => d.parameters.length) = some 2 := ⟨(gk_3 (List.mem_of_getElem? (i := 146) rfl) rfl), cz_Reader, cx_Reader.1, cx_Reader.2, by decide +kernel⟩
set_option maxRecDepth 100000 in
theorem mo_Reader_154 : mOk "CookedLaw$Reader" 154 2 y_Reader_takeIngredient := ⟨Or.inl (gk_3 (List.mem_of_getElem? (i := 143) rfl) rfl), mk_Reader_takeIngredient⟩
set_option maxRecDepth 100000 in
theorem mo_Reader_161 : mOk "CookedLaw$Reader" 161 2 y_Land_inDish := ⟨Or.inl (gk_3 (List.mem_of_getElem? (i := 147) rfl) rfl), mk_Land_inDish⟩
set_option maxRecDepth 100000 in
theorem mo_Reader_183 : mOk "CookedLaw$Reader" 183 0 y_Law_clear := ⟨Or.inl (gk_3 (List.mem_of_getElem? (i := 164) rfl) rfl), mk_Law_clear⟩
set_option maxRecDepth 100000 in
theorem mk_Reader_takeSum : Cond.code y_Reader_takeSum.1 y_Reader_takeSum.2.1 y_Reader_takeSum.2.2.1 y_Reader_takeSum.2.2.2.1 ∈ gtb ∧ Cond.initialized y_Reader_takeSum.1.cls ∈ gtb ∧ y_Reader_takeSum.1.cls ≠ "java/lang/invoke/MethodHandle" ∧ y_Reader_takeSum.1.cls ≠ "java/lang/invoke/VarHandle" ∧ (parseMethodDescriptor y_Reader_takeSum.1.desc).map (fun d => d.parameters.length) = some 1 := ⟨(gk_3 (List.mem_of_getElem? (i := 168) rfl) rfl), cz_Reader, cx_Reader.1, cx_Reader.2, by decide +kernel⟩
set_option maxRecDepth 100000 in
theorem mo_Reader_186 : mOk "CookedLaw$Reader" 186 1 y_Reader_takeSum := ⟨Or.inl (gk_3 (List.mem_of_getElem? (i := 165) rfl) rfl), mk_Reader_takeSum⟩
set_option maxRecDepth 100000 in
theorem mk_Law_openIf : Cond.code y_Law_openIf.1 y_Law_openIf.2.1 y_Law_openIf.2.2.1 y_Law_openIf.2.2.2.1 ∈ gtb ∧ Cond.initialized y_Law_openIf.1.cls ∈ gtb ∧ y_Law_openIf.1.cls ≠ "java/lang/invoke/MethodHandle" ∧ y_Law_openIf.1.cls ≠ "java/lang/invoke/VarHandle" ∧ (parseMethodDescriptor y_Law_openIf.1.desc).map (fun d => d.parameters.length) = some 0 := ⟨(gk_3 (List.mem_of_getElem? (i := 202) rfl) rfl), cz_Law, cx_Law.1, cx_Law.2, by decide +kernel⟩
set_option maxRecDepth 100000 in
theorem mo_Reader_189 : mOk "CookedLaw$Reader" 189 0 y_Law_openIf := ⟨Or.inl (gk_3 (List.mem_of_getElem? (i := 199) rfl) rfl), mk_Law_openIf⟩
set_option maxRecDepth 100000 in
theorem mk_Law_closeIf : Cond.code y_Law_closeIf.1 y_Law_closeIf.2.1 y_Law_closeIf.2.2.1 y_Law_closeIf.2.2.2.1 ∈ gtb ∧ Cond.initialized y_Law_closeIf.1.cls ∈ gtb ∧ y_Law_closeIf.1.cls ≠ "java/lang/invoke/MethodHandle" ∧ y_Law_closeIf.1.cls ≠ "java/lang/invoke/VarHandle" ∧ (parseMethodDescriptor y_Law_closeIf.1.desc).map (fun d => d.parameters.length) = some 1 := ⟨(gk_3 (List.mem_of_getElem? (i := 207) rfl) rfl), cz_Law, cx_Law.1, cx_Law.2, by decide +kernel⟩
set_option maxRecDepth 100000 in
theorem mo_Reader_193 : mOk "CookedLaw$Reader" 193 1 y_Law_closeIf := ⟨Or.inl (gk_3 (List.mem_of_getElem? (i := 204) rfl) rfl), mk_Law_closeIf⟩
set_option maxRecDepth 100000 in
theorem mk_Reader_takeUnit : Cond.code y_Reader_takeUnit.1 y_Reader_takeUnit.2.1 y_Reader_takeUnit.2.2.1 y_Reader_takeUnit.2.2.2.1 ∈ gtb ∧ Cond.initialized y_Reader_takeUnit.1.cls ∈ gtb ∧ y_Reader_takeUnit.1.cls ≠ "java/lang/invoke/MethodHandle" ∧ y_Reader_takeUnit.1.cls ≠ "java/lang/invoke/VarHandle" ∧ (parseMethodDescriptor y_Reader_takeUnit.1.desc).map (fun d => d.parameters.length) = some 1 := ⟨(gk_3 (List.mem_of_getElem? (i := 172) rfl) rfl), cz_Reader, cx_Reader.1, cx_Reader.2, by decide +kernel⟩
set_option maxRecDepth 100000 in
theorem mo_Reader_202 : mOk "CookedLaw$Reader" 202 1 y_Reader_takeUnit := ⟨Or.inl (gk_3 (List.mem_of_getElem? (i := 169) rfl) rfl), mk_Reader_takeUnit⟩
set_option maxRecDepth 100000 in
theorem mk_Reader_rank : Cond.code y_Reader_rank.1 y_Reader_rank.2.1 y_Reader_rank.2.2.1 y_Reader_rank.2.2.2.1 ∈ gtb ∧ Cond.initialized y_Reader_rank.1.cls ∈ gtb ∧ y_Reader_rank.1.cls ≠ "java/lang/invoke/MethodHandle" ∧ y_Reader_rank.1.cls ≠ "java/lang/invoke/VarHandle" ∧ (parseMethodDescriptor y_Reader_rank.1.desc).map (fun d => d.parameters.length) = some 1 := ⟨(gk_3 (List.mem_of_getElem? (i := 186) rfl) rfl), cz_Reader, cx_Reader.1, cx_Reader.2, by decide +kernel⟩
set_option maxRecDepth 100000 in
theorem mo_Reader_206 : mOk "CookedLaw$Reader" 206 1 y_Reader_rank := ⟨Or.inl (gk_3 (List.mem_of_getElem? (i := 184) rfl) rfl), mk_Reader_rank⟩
set_option maxRecDepth 100000 in
theorem mk_Reader_takeSign : Cond.code y_Reader_takeSign.1 y_Reader_takeSign.2.1 y_Reader_takeSign.2.2.1 y_Reader_takeSign.2.2.2.1 ∈ gtb ∧ Cond.initialized y_Reader_takeSign.1.cls ∈ gtb ∧ y_Reader_takeSign.1.cls ≠ "java/lang/invoke/MethodHandle" ∧ y_Reader_takeSign.1.cls ≠ "java/lang/invoke/VarHandle" ∧ (parseMethodDescriptor y_Reader_takeSign.1.desc).map (fun d => d.parameters.length) = some 1 := ⟨(gk_3 (List.mem_of_getElem? (i := 190) rfl) rfl), cz_Reader, cx_Reader.1, cx_Reader.2, by decide +kernel⟩
set_option maxRecDepth 100000 in
theorem mo_Reader_209 : mOk "CookedLaw$Reader" 209 1 y_Reader_takeSign := ⟨Or.inl (gk_3 (List.mem_of_getElem? (i := 187) rfl) rfl), mk_Reader_takeSign⟩
set_option maxRecDepth 100000 in
theorem mk_Reader_takeClose : Cond.code y_Reader_takeClose.1 y_Reader_takeClose.2.1 y_Reader_takeClose.2.2.1 y_Reader_takeClose.2.2.2.1 ∈ gtb ∧ Cond.initialized y_Reader_takeClose.1.cls ∈ gtb ∧ y_Reader_takeClose.1.cls ≠ "java/lang/invoke/MethodHandle" ∧ y_Reader_takeClose.1.cls ≠ "java/lang/invoke/VarHandle" ∧ (parseMethodDescriptor y_Reader_takeClose.1.desc).map (fun d => d.parameters.length) = some 1 := ⟨(gk_3 (List.mem_of_getElem? (i := 198) rfl) rfl), cz_Reader, cx_Reader.1, cx_Reader.2, by decide +kernel⟩
set_option maxRecDepth 100000 in
theorem mo_Reader_212 : mOk "CookedLaw$Reader" 212 1 y_Reader_takeClose := ⟨Or.inl (gk_3 (List.mem_of_getElem? (i := 195) rfl) rfl), mk_Reader_takeClose⟩
set_option maxRecDepth 100000 in
theorem mk_Reader_layHeld : Cond.code y_Reader_layHeld.1 y_Reader_layHeld.2.1 y_Reader_layHeld.2.2.1 y_Reader_layHeld.2.2.2.1 ∈ gtb ∧ Cond.initialized y_Reader_layHeld.1.cls ∈ gtb ∧ y_Reader_layHeld.1.cls ≠ "java/lang/invoke/MethodHandle" ∧ y_Reader_layHeld.1.cls ≠ "java/lang/invoke/VarHandle" ∧ (parseMethodDescriptor y_Reader_layHeld.1.desc).map (fun d => d.parameters.length) = some 2 := ⟨(gk_3 (List.mem_of_getElem? (i := 194) rfl) rfl), cz_Reader, cx_Reader.1, cx_Reader.2, by decide +kernel⟩
set_option maxRecDepth 100000 in
theorem mo_Reader_215 : mOk "CookedLaw$Reader" 215 2 y_Reader_layHeld := ⟨Or.inl (gk_3 (List.mem_of_getElem? (i := 191) rfl) rfl), mk_Reader_layHeld⟩
set_option maxRecDepth 100000 in
theorem mk_Reader_holdSign : Cond.code y_Reader_holdSign.1 y_Reader_holdSign.2.1 y_Reader_holdSign.2.2.1 y_Reader_holdSign.2.2.2.1 ∈ gtb ∧ Cond.initialized y_Reader_holdSign.1.cls ∈ gtb ∧ y_Reader_holdSign.1.cls ≠ "java/lang/invoke/MethodHandle" ∧ y_Reader_holdSign.1.cls ≠ "java/lang/invoke/VarHandle" ∧ (parseMethodDescriptor y_Reader_holdSign.1.desc).map (fun d => d.parameters.length) = some 1 := ⟨(gk_3 (List.mem_of_getElem? (i := 176) rfl) rfl), cz_Reader, cx_Reader.1, cx_Reader.2, by decide +kernel⟩
set_option maxRecDepth 100000 in
theorem mo_Reader_219 : mOk "CookedLaw$Reader" 219 1 y_Reader_holdSign := ⟨Or.inl (gk_3 (List.mem_of_getElem? (i := 173) rfl) rfl), mk_Reader_holdSign⟩
set_option maxRecDepth 100000 in
theorem mo_Reader_222 : mOk "CookedLaw$Reader" 222 1 y_Law_add := ⟨Or.inl (gk_3 (List.mem_of_getElem? (i := 177) rfl) rfl), mk_Law_add⟩
set_option maxRecDepth 100000 in
theorem mo_Reader_225 : mOk "CookedLaw$Reader" 225 2 y_Main_isOne := ⟨Or.inr ⟨"CookedLaw", (tk_3 (List.mem_of_getElem? (i := 181) rfl))⟩, mk_Main_isOne⟩
set_option maxRecDepth 100000 in
theorem mo_Slots_17 : mOk "CookedLaw$Slots" 17 0 y_State_init := ⟨Or.inr ⟨"CookedLaw", (tk_2 (List.mem_of_getElem? (i := 113) rfl))⟩, mk_State_init⟩
set_option maxRecDepth 100000 in
theorem mo_Slots_22 : mOk "CookedLaw$Slots" 22 1 y_State_copyFrom := ⟨Or.inl (gk_5 (List.mem_of_getElem? (i := 156) rfl) rfl), mk_State_copyFrom⟩
set_option maxRecDepth 100000 in
theorem mo_Slots_26 : mOk "CookedLaw$Slots" 26 2 y_Main_hasBit := ⟨Or.inr ⟨"CookedLaw", (tk_5 (List.mem_of_getElem? (i := 165) rfl))⟩, mk_Main_hasBit⟩
set_option maxRecDepth 100000 in
theorem mo_Slots_30 : mOk "CookedLaw$Slots" 30 1 y_Int_bitCount := ⟨Or.inl (gk_5 (List.mem_of_getElem? (i := 174) rfl) rfl), mk_Int_bitCount⟩
set_option maxRecDepth 100000 in
theorem mo_State_43 : mOk "CookedLaw$State" 43 1 y_Main_wipe := ⟨Or.inr ⟨"CookedLaw", (tk_3 (List.mem_of_getElem? (i := 225) rfl))⟩, mk_Main_wipe⟩
set_option maxRecDepth 100000 in
theorem mo_State_53 : mOk "CookedLaw$State" 53 2 y_Main_at := ⟨Or.inr ⟨"CookedLaw", (tk_3 (List.mem_of_getElem? (i := 226) rfl))⟩, mk_Main_at⟩
set_option maxRecDepth 100000 in
theorem mo_State_57 : mOk "CookedLaw$State" 57 3 y_Main_put := ⟨Or.inr ⟨"CookedLaw", (tk_3 (List.mem_of_getElem? (i := 227) rfl))⟩, mk_Main_put⟩
set_option maxRecDepth 100000 in
theorem mo_State_61 : mOk "CookedLaw$State" 61 2 y_Main_copyRow := ⟨Or.inr ⟨"CookedLaw", (tk_4 (List.mem_of_getElem? (i := 130) rfl))⟩, mk_Main_copyRow⟩
set_option maxRecDepth 100000 in
theorem mo_State_65 : mOk "CookedLaw$State" 65 2 y_Land_inDish := ⟨Or.inl (gk_4 (List.mem_of_getElem? (i := 121) rfl) rfl), mk_Land_inDish⟩
set_option maxRecDepth 100000 in
theorem mk_Land_lot : Cond.code y_Land_lot.1 y_Land_lot.2.1 y_Land_lot.2.2.1 y_Land_lot.2.2.2.1 ∈ gtb ∧ Cond.initialized y_Land_lot.1.cls ∈ gtb ∧ y_Land_lot.1.cls ≠ "java/lang/invoke/MethodHandle" ∧ y_Land_lot.1.cls ≠ "java/lang/invoke/VarHandle" ∧ (parseMethodDescriptor y_Land_lot.1.desc).map (fun d => d.parameters.length) = some 3 := ⟨(gk_4 (List.mem_of_getElem? (i := 144) rfl) rfl), cz_Land, cx_Land.1, cx_Land.2, by decide +kernel⟩
set_option maxRecDepth 100000 in
theorem mo_State_69 : mOk "CookedLaw$State" 69 3 y_Land_lot := ⟨Or.inl (gk_4 (List.mem_of_getElem? (i := 142) rfl) rfl), mk_Land_lot⟩
set_option maxRecDepth 100000 in
theorem mk_Land_slipsOf : Cond.code y_Land_slipsOf.1 y_Land_slipsOf.2.1 y_Land_slipsOf.2.2.1 y_Land_slipsOf.2.2.2.1 ∈ gtb ∧ Cond.initialized y_Land_slipsOf.1.cls ∈ gtb ∧ y_Land_slipsOf.1.cls ≠ "java/lang/invoke/MethodHandle" ∧ y_Land_slipsOf.1.cls ≠ "java/lang/invoke/VarHandle" ∧ (parseMethodDescriptor y_Land_slipsOf.1.desc).map (fun d => d.parameters.length) = some 2 := ⟨(gk_4 (List.mem_of_getElem? (i := 152) rfl) rfl), cz_Land, cx_Land.1, cx_Land.2, by decide +kernel⟩
set_option maxRecDepth 100000 in
theorem mo_State_73 : mOk "CookedLaw$State" 73 2 y_Land_slipsOf := ⟨Or.inl (gk_4 (List.mem_of_getElem? (i := 149) rfl) rfl), mk_Land_slipsOf⟩
set_option maxRecDepth 100000 in
theorem mo_State_79 : mOk "CookedLaw$State" 79 3 y_State_slipInto := ⟨Or.inl (gk_4 (List.mem_of_getElem? (i := 138) rfl) rfl), mk_State_slipInto⟩
set_option maxRecDepth 100000 in
theorem mo_State_83 : mOk "CookedLaw$State" 83 4 y_Land_dishForce := ⟨Or.inl (gk_4 (List.mem_of_getElem? (i := 153) rfl) rfl), mk_Land_dishForce⟩
set_option maxRecDepth 100000 in
theorem mo_State_87 : mOk "CookedLaw$State" 87 1 y_Land_priceOf := ⟨Or.inl (gk_4 (List.mem_of_getElem? (i := 154) rfl) rfl), mk_Land_priceOf⟩
set_option maxRecDepth 100000 in
theorem mk_Land_fillOf : Cond.code y_Land_fillOf.1 y_Land_fillOf.2.1 y_Land_fillOf.2.2.1 y_Land_fillOf.2.2.2.1 ∈ gtb ∧ Cond.initialized y_Land_fillOf.1.cls ∈ gtb ∧ y_Land_fillOf.1.cls ≠ "java/lang/invoke/MethodHandle" ∧ y_Land_fillOf.1.cls ≠ "java/lang/invoke/VarHandle" ∧ (parseMethodDescriptor y_Land_fillOf.1.desc).map (fun d => d.parameters.length) = some 3 := ⟨(gk_4 (List.mem_of_getElem? (i := 174) rfl) rfl), cz_Land, cx_Land.1, cx_Land.2, by decide +kernel⟩
set_option maxRecDepth 100000 in
theorem mo_State_91 : mOk "CookedLaw$State" 91 3 y_Land_fillOf := ⟨Or.inl (gk_4 (List.mem_of_getElem? (i := 171) rfl) rfl), mk_Land_fillOf⟩
set_option maxRecDepth 100000 in
theorem mo_State_94 : mOk "CookedLaw$State" 94 3 y_Main_within := ⟨Or.inr ⟨"CookedLaw", (tk_4 (List.mem_of_getElem? (i := 175) rfl))⟩, mk_Main_within⟩
set_option maxRecDepth 100000 in
theorem mo_State_97 : mOk "CookedLaw$State" 97 1 y_State_hasEaten := ⟨Or.inl (gk_4 (List.mem_of_getElem? (i := 87) rfl) rfl), mk_State_hasEaten⟩
set_option maxRecDepth 100000 in
theorem mo_State_101 : mOk "CookedLaw$State" 101 1 y_State_agoOf := ⟨Or.inl (gk_4 (List.mem_of_getElem? (i := 88) rfl) rfl), mk_State_agoOf⟩
set_option maxRecDepth 100000 in
theorem mo_State_104 : mOk "CookedLaw$State" 104 5 y_Land_boundBy := ⟨Or.inl (gk_4 (List.mem_of_getElem? (i := 89) rfl) rfl), mk_Land_boundBy⟩
set_option maxRecDepth 100000 in
theorem mo_State_108 : mOk "CookedLaw$State" 108 4 y_State_boundOf := ⟨Or.inl (gk_4 (List.mem_of_getElem? (i := 105) rfl) rfl), mk_State_boundOf⟩
set_option maxRecDepth 100000 in
theorem mo_State_112 : mOk "CookedLaw$State" 112 2 y_Land_freeUnder := ⟨Or.inl (gk_4 (List.mem_of_getElem? (i := 106) rfl) rfl), mk_Land_freeUnder⟩
set_option maxRecDepth 100000 in
theorem mo_Tape_19 : mOk "CookedLaw$Tape" 19 3 y_Main_put := ⟨Or.inr ⟨"CookedLaw", (tk_3 (List.mem_of_getElem? (i := 30) rfl))⟩, mk_Main_put⟩
set_option maxRecDepth 100000 in
theorem mk_Tokens_withLetter : Cond.code y_Tokens_withLetter.1 y_Tokens_withLetter.2.1 y_Tokens_withLetter.2.2.1 y_Tokens_withLetter.2.2.2.1 ∈ gtb ∧ Cond.initialized y_Tokens_withLetter.1.cls ∈ gtb ∧ y_Tokens_withLetter.1.cls ≠ "java/lang/invoke/MethodHandle" ∧ y_Tokens_withLetter.1.cls ≠ "java/lang/invoke/VarHandle" ∧ (parseMethodDescriptor y_Tokens_withLetter.1.desc).map (fun d => d.parameters.length) = some 2 := ⟨(gk_1 (List.mem_of_getElem? (i := 107) rfl) rfl), cz_Tokens, cx_Tokens.1, cx_Tokens.2, by decide +kernel⟩
set_option maxRecDepth 100000 in
theorem mo_Tokens_37 : mOk "CookedLaw$Tokens" 37 2 y_Tokens_withLetter := ⟨Or.inl (gk_1 (List.mem_of_getElem? (i := 105) rfl) rfl), mk_Tokens_withLetter⟩
set_option maxRecDepth 100000 in
theorem mk_Tokens_behindBlanks : Cond.code y_Tokens_behindBlanks.1 y_Tokens_behindBlanks.2.1 y_Tokens_behindBlanks.2.2.1 y_Tokens_behindBlanks.2.2.2.1 ∈ gtb ∧ Cond.initialized y_Tokens_behindBlanks.1.cls ∈ gtb ∧ y_Tokens_behindBlanks.1.cls ≠ "java/lang/invoke/MethodHandle" ∧ y_Tokens_behindBlanks.1.cls ≠ "java/lang/invoke/VarHandle" ∧ (parseMethodDescriptor y_Tokens_behindBlanks.1.desc).map (fun d => d.parameters.length) = some 2 := ⟨(gk_3 (List.mem_of_getElem? (i := 51) rfl) rfl), cz_Tokens, cx_Tokens.1, cx_Tokens.2, by decide +kernel⟩
set_option maxRecDepth 100000 in
theorem mo_Tokens_43 : mOk "CookedLaw$Tokens" 43 2 y_Tokens_behindBlanks := ⟨Or.inl (gk_3 (List.mem_of_getElem? (i := 49) rfl) rfl), mk_Tokens_behindBlanks⟩
set_option maxRecDepth 100000 in
theorem mk_Tokens_cutOne : Cond.code y_Tokens_cutOne.1 y_Tokens_cutOne.2.1 y_Tokens_cutOne.2.2.1 y_Tokens_cutOne.2.2.2.1 ∈ gtb ∧ Cond.initialized y_Tokens_cutOne.1.cls ∈ gtb ∧ y_Tokens_cutOne.1.cls ≠ "java/lang/invoke/MethodHandle" ∧ y_Tokens_cutOne.1.cls ≠ "java/lang/invoke/VarHandle" ∧ (parseMethodDescriptor y_Tokens_cutOne.1.desc).map (fun d => d.parameters.length) = some 3 := ⟨(gk_3 (List.mem_of_getElem? (i := 62) rfl) rfl), cz_Tokens, cx_Tokens.1, cx_Tokens.2, by decide +kernel⟩
set_option maxRecDepth 100000 in
theorem mo_Tokens_47 : mOk "CookedLaw$Tokens" 47 3 y_Tokens_cutOne := ⟨Or.inl (gk_3 (List.mem_of_getElem? (i := 59) rfl) rfl), mk_Tokens_cutOne⟩
set_option maxRecDepth 100000 in
theorem mo_Tokens_51 : mOk "CookedLaw$Tokens" 51 3 y_Main_put := ⟨Or.inr ⟨"CookedLaw", (tk_3 (List.mem_of_getElem? (i := 83) rfl))⟩, mk_Main_put⟩
set_option maxRecDepth 100000 in
theorem mk_Tape_byteAt : Cond.code y_Tape_byteAt.1 y_Tape_byteAt.2.1 y_Tape_byteAt.2.2.1 y_Tape_byteAt.2.2.2.1 ∈ gtb ∧ Cond.initialized y_Tape_byteAt.1.cls ∈ gtb ∧ y_Tape_byteAt.1.cls ≠ "java/lang/invoke/MethodHandle" ∧ y_Tape_byteAt.1.cls ≠ "java/lang/invoke/VarHandle" ∧ (parseMethodDescriptor y_Tape_byteAt.1.desc).map (fun d => d.parameters.length) = some 1 := ⟨(gk_3 (List.mem_of_getElem? (i := 55) rfl) rfl), cz_Tape, cx_Tape.1, cx_Tape.2, by decide +kernel⟩
set_option maxRecDepth 100000 in
theorem mo_Tokens_60 : mOk "CookedLaw$Tokens" 60 1 y_Tape_byteAt := ⟨Or.inl (gk_3 (List.mem_of_getElem? (i := 52) rfl) rfl), mk_Tape_byteAt⟩
set_option maxRecDepth 100000 in
theorem mk_Tokens_isBlank : Cond.code y_Tokens_isBlank.1 y_Tokens_isBlank.2.1 y_Tokens_isBlank.2.2.1 y_Tokens_isBlank.2.2.2.1 ∈ gtb ∧ Cond.initialized y_Tokens_isBlank.1.cls ∈ gtb ∧ y_Tokens_isBlank.1.cls ≠ "java/lang/invoke/MethodHandle" ∧ y_Tokens_isBlank.1.cls ≠ "java/lang/invoke/VarHandle" ∧ (parseMethodDescriptor y_Tokens_isBlank.1.desc).map (fun d => d.parameters.length) = some 1 := ⟨(gk_3 (List.mem_of_getElem? (i := 58) rfl) rfl), cz_Tokens, cx_Tokens.1, cx_Tokens.2, by decide +kernel⟩
set_option maxRecDepth 100000 in
theorem mo_Tokens_64 : mOk "CookedLaw$Tokens" 64 1 y_Tokens_isBlank := ⟨Or.inl (gk_3 (List.mem_of_getElem? (i := 56) rfl) rfl), mk_Tokens_isBlank⟩
set_option maxRecDepth 100000 in
theorem mk_Tokens_cutLetters : Cond.code y_Tokens_cutLetters.1 y_Tokens_cutLetters.2.1 y_Tokens_cutLetters.2.2.1 y_Tokens_cutLetters.2.2.2.1 ∈ gtb ∧ Cond.initialized y_Tokens_cutLetters.1.cls ∈ gtb ∧ y_Tokens_cutLetters.1.cls ≠ "java/lang/invoke/MethodHandle" ∧ y_Tokens_cutLetters.1.cls ≠ "java/lang/invoke/VarHandle" ∧ (parseMethodDescriptor y_Tokens_cutLetters.1.desc).map (fun d => d.parameters.length) = some 3 := ⟨(gk_3 (List.mem_of_getElem? (i := 66) rfl) rfl), cz_Tokens, cx_Tokens.1, cx_Tokens.2, by decide +kernel⟩
set_option maxRecDepth 100000 in
theorem mo_Tokens_68 : mOk "CookedLaw$Tokens" 68 3 y_Tokens_cutLetters := ⟨Or.inl (gk_3 (List.mem_of_getElem? (i := 63) rfl) rfl), mk_Tokens_cutLetters⟩
set_option maxRecDepth 100000 in
theorem mk_Tokens_cutDigits : Cond.code y_Tokens_cutDigits.1 y_Tokens_cutDigits.2.1 y_Tokens_cutDigits.2.2.1 y_Tokens_cutDigits.2.2.2.1 ∈ gtb ∧ Cond.initialized y_Tokens_cutDigits.1.cls ∈ gtb ∧ y_Tokens_cutDigits.1.cls ≠ "java/lang/invoke/MethodHandle" ∧ y_Tokens_cutDigits.1.cls ≠ "java/lang/invoke/VarHandle" ∧ (parseMethodDescriptor y_Tokens_cutDigits.1.desc).map (fun d => d.parameters.length) = some 3 := ⟨(gk_3 (List.mem_of_getElem? (i := 78) rfl) rfl), cz_Tokens, cx_Tokens.1, cx_Tokens.2, by decide +kernel⟩
set_option maxRecDepth 100000 in
theorem mo_Tokens_71 : mOk "CookedLaw$Tokens" 71 3 y_Tokens_cutDigits := ⟨Or.inl (gk_3 (List.mem_of_getElem? (i := 75) rfl) rfl), mk_Tokens_cutDigits⟩
set_option maxRecDepth 100000 in
theorem mk_Tokens_set : Cond.code y_Tokens_set.1 y_Tokens_set.2.1 y_Tokens_set.2.2.1 y_Tokens_set.2.2.2.1 ∈ gtb ∧ Cond.initialized y_Tokens_set.1.cls ∈ gtb ∧ y_Tokens_set.1.cls ≠ "java/lang/invoke/MethodHandle" ∧ y_Tokens_set.1.cls ≠ "java/lang/invoke/VarHandle" ∧ (parseMethodDescriptor y_Tokens_set.1.desc).map (fun d => d.parameters.length) = some 3 := ⟨(gk_3 (List.mem_of_getElem? (i := 74) rfl) rfl), cz_Tokens, cx_Tokens.1, cx_Tokens.2, by decide +kernel⟩
set_option maxRecDepth 100000 in
theorem mo_Tokens_74 : mOk "CookedLaw$Tokens" 74 3 y_Tokens_set := ⟨Or.inl (gk_3 (List.mem_of_getElem? (i := 71) rfl) rfl), mk_Tokens_set⟩
set_option maxRecDepth 100000 in
theorem mk_Tokens_isSign : Cond.code y_Tokens_isSign.1 y_Tokens_isSign.2.1 y_Tokens_isSign.2.2.1 y_Tokens_isSign.2.2.2.1 ∈ gtb ∧ Cond.initialized y_Tokens_isSign.1.cls ∈ gtb ∧ y_Tokens_isSign.1.cls ≠ "java/lang/invoke/MethodHandle" ∧ y_Tokens_isSign.1.cls ≠ "java/lang/invoke/VarHandle" ∧ (parseMethodDescriptor y_Tokens_isSign.1.desc).map (fun d => d.parameters.length) = some 1 := ⟨(gk_3 (List.mem_of_getElem? (i := 82) rfl) rfl), cz_Tokens, cx_Tokens.1, cx_Tokens.2, by decide +kernel⟩
set_option maxRecDepth 100000 in
theorem mo_Tokens_78 : mOk "CookedLaw$Tokens" 78 1 y_Tokens_isSign := ⟨Or.inl (gk_3 (List.mem_of_getElem? (i := 80) rfl) rfl), mk_Tokens_isSign⟩
set_option maxRecDepth 100000 in
theorem mk_Tokens_kindOf : Cond.code y_Tokens_kindOf.1 y_Tokens_kindOf.2.1 y_Tokens_kindOf.2.2.1 y_Tokens_kindOf.2.2.2.1 ∈ gtb ∧ Cond.initialized y_Tokens_kindOf.1.cls ∈ gtb ∧ y_Tokens_kindOf.1.cls ≠ "java/lang/invoke/MethodHandle" ∧ y_Tokens_kindOf.1.cls ≠ "java/lang/invoke/VarHandle" ∧ (parseMethodDescriptor y_Tokens_kindOf.1.desc).map (fun d => d.parameters.length) = some 1 := ⟨(gk_3 (List.mem_of_getElem? (i := 70) rfl) rfl), cz_Tokens, cx_Tokens.1, cx_Tokens.2, by decide +kernel⟩
set_option maxRecDepth 100000 in
theorem mo_Tokens_81 : mOk "CookedLaw$Tokens" 81 1 y_Tokens_kindOf := ⟨Or.inl (gk_3 (List.mem_of_getElem? (i := 67) rfl) rfl), mk_Tokens_kindOf⟩
set_option maxRecDepth 100000 in
theorem mo_Told_37 : mOk "CookedLaw$Told" 37 3 y_Main_put := ⟨Or.inr ⟨"CookedLaw", (tk_5 (List.mem_of_getElem? (i := 95) rfl))⟩, mk_Main_put⟩
set_option maxRecDepth 100000 in
theorem mk_Told_lay : Cond.code y_Told_lay.1 y_Told_lay.2.1 y_Told_lay.2.2.1 y_Told_lay.2.2.2.1 ∈ gtb ∧ Cond.initialized y_Told_lay.1.cls ∈ gtb ∧ y_Told_lay.1.cls ≠ "java/lang/invoke/MethodHandle" ∧ y_Told_lay.1.cls ≠ "java/lang/invoke/VarHandle" ∧ (parseMethodDescriptor y_Told_lay.1.desc).map (fun d => d.parameters.length) = some 3 := ⟨(gk_5 (List.mem_of_getElem? (i := 111) rfl) rfl), cz_Told, cx_Told.1, cx_Told.2, by decide +kernel⟩
set_option maxRecDepth 100000 in
theorem mo_Told_49 : mOk "CookedLaw$Told" 49 3 y_Told_lay := ⟨Or.inl (gk_5 (List.mem_of_getElem? (i := 108) rfl) rfl), mk_Told_lay⟩
set_option maxRecDepth 100000 in
theorem mk_Told_isAsKnown : Cond.code y_Told_isAsKnown.1 y_Told_isAsKnown.2.1 y_Told_isAsKnown.2.2.1 y_Told_isAsKnown.2.2.2.1 ∈ gtb ∧ Cond.initialized y_Told_isAsKnown.1.cls ∈ gtb ∧ y_Told_isAsKnown.1.cls ≠ "java/lang/invoke/MethodHandle" ∧ y_Told_isAsKnown.1.cls ≠ "java/lang/invoke/VarHandle" ∧ (parseMethodDescriptor y_Told_isAsKnown.1.desc).map (fun d => d.parameters.length) = some 3 := ⟨(gk_5 (List.mem_of_getElem? (i := 119) rfl) rfl), cz_Told, cx_Told.1, cx_Told.2, by decide +kernel⟩
set_option maxRecDepth 100000 in
theorem mo_Told_53 : mOk "CookedLaw$Told" 53 3 y_Told_isAsKnown := ⟨Or.inl (gk_5 (List.mem_of_getElem? (i := 116) rfl) rfl), mk_Told_isAsKnown⟩
set_option maxRecDepth 100000 in
theorem mo_Told_56 : mOk "CookedLaw$Told" 56 1 y_Land_manyIn := ⟨Or.inl (gk_5 (List.mem_of_getElem? (i := 112) rfl) rfl), mk_Land_manyIn⟩
set_option maxRecDepth 100000 in
theorem mo_Told_63 : mOk "CookedLaw$Told" 63 2 y_Land_inDish := ⟨Or.inl (gk_5 (List.mem_of_getElem? (i := 113) rfl) rfl), mk_Land_inDish⟩
set_option maxRecDepth 100000 in
theorem mo_Told_67 : mOk "CookedLaw$Told" 67 2 y_Land_broughtBy := ⟨Or.inl (gk_5 (List.mem_of_getElem? (i := 114) rfl) rfl), mk_Land_broughtBy⟩
set_option maxRecDepth 100000 in
theorem mo_Told_70 : mOk "CookedLaw$Told" 70 2 y_Land_sumOf := ⟨Or.inl (gk_5 (List.mem_of_getElem? (i := 115) rfl) rfl), mk_Land_sumOf⟩
set_option maxRecDepth 100000 in
theorem mo_Told_73 : mOk "CookedLaw$Told" 73 2 y_Main_at := ⟨Or.inr ⟨"CookedLaw", (tk_5 (List.mem_of_getElem? (i := 120) rfl))⟩, mk_Main_at⟩
set_option maxRecDepth 100000 in
theorem mk_Told_forceOf : Cond.code y_Told_forceOf.1 y_Told_forceOf.2.1 y_Told_forceOf.2.2.1 y_Told_forceOf.2.2.2.1 ∈ gtb ∧ Cond.initialized y_Told_forceOf.1.cls ∈ gtb ∧ y_Told_forceOf.1.cls ≠ "java/lang/invoke/MethodHandle" ∧ y_Told_forceOf.1.cls ≠ "java/lang/invoke/VarHandle" ∧ (parseMethodDescriptor y_Told_forceOf.1.desc).map (fun d => d.parameters.length) = some 5 := ⟨(gk_5 (List.mem_of_getElem? (i := 124) rfl) rfl), cz_Told, cx_Told.1, cx_Told.2, by decide +kernel⟩
set_option maxRecDepth 100000 in
theorem mo_Told_77 : mOk "CookedLaw$Told" 77 5 y_Told_forceOf := ⟨Or.inl (gk_5 (List.mem_of_getElem? (i := 121) rfl) rfl), mk_Told_forceOf⟩
set_option maxRecDepth 100000 in
theorem mo_Told_81 : mOk "CookedLaw$Told" 81 5 y_Land_potForce := ⟨Or.inl (gk_5 (List.mem_of_getElem? (i := 125) rfl) rfl), mk_Land_potForce⟩
set_option maxRecDepth 100000 in
theorem mk_Told_mostAlike : Cond.code y_Told_mostAlike.1 y_Told_mostAlike.2.1 y_Told_mostAlike.2.2.1 y_Told_mostAlike.2.2.2.1 ∈ gtb ∧ Cond.initialized y_Told_mostAlike.1.cls ∈ gtb ∧ y_Told_mostAlike.1.cls ≠ "java/lang/invoke/MethodHandle" ∧ y_Told_mostAlike.1.cls ≠ "java/lang/invoke/VarHandle" ∧ (parseMethodDescriptor y_Told_mostAlike.1.desc).map (fun d => d.parameters.length) = some 4 := ⟨(gk_5 (List.mem_of_getElem? (i := 145) rfl) rfl), cz_Told, cx_Told.1, cx_Told.2, by decide +kernel⟩
set_option maxRecDepth 100000 in
theorem mo_Told_85 : mOk "CookedLaw$Told" 85 4 y_Told_mostAlike := ⟨Or.inl (gk_5 (List.mem_of_getElem? (i := 142) rfl) rfl), mk_Told_mostAlike⟩
set_option maxRecDepth 100000 in
theorem mo_Told_89 : mOk "CookedLaw$Told" 89 1 y_Main_wipe := ⟨Or.inr ⟨"CookedLaw", (tk_5 (List.mem_of_getElem? (i := 146) rfl))⟩, mk_Main_wipe⟩
set_option maxRecDepth 100000 in
theorem mk_Mod_plain : Cond.code y_Mod_plain.1 y_Mod_plain.2.1 y_Mod_plain.2.2.1 y_Mod_plain.2.2.2.1 ∈ gtb ∧ Cond.initialized y_Mod_plain.1.cls ∈ gtb ∧ y_Mod_plain.1.cls ≠ "java/lang/invoke/MethodHandle" ∧ y_Mod_plain.1.cls ≠ "java/lang/invoke/VarHandle" ∧ (parseMethodDescriptor y_Mod_plain.1.desc).map (fun d => d.parameters.length) = some 1 := ⟨(gk_5 (List.mem_of_getElem? (i := 188) rfl) rfl), cz_Mod, cx_Mod.1, cx_Mod.2, by decide +kernel⟩
set_option maxRecDepth 100000 in
theorem mo_Mod_155 : mOk "CookedLawModel" 155 1 y_Mod_plain := ⟨Or.inl (gk_5 (List.mem_of_getElem? (i := 185) rfl) rfl), mk_Mod_plain⟩
set_option maxRecDepth 100000 in
theorem mk_Mod_word : Cond.code y_Mod_word.1 y_Mod_word.2.1 y_Mod_word.2.2.1 y_Mod_word.2.2.2.1 ∈ gtb ∧ Cond.initialized y_Mod_word.1.cls ∈ gtb ∧ y_Mod_word.1.cls ≠ "java/lang/invoke/MethodHandle" ∧ y_Mod_word.1.cls ≠ "java/lang/invoke/VarHandle" ∧ (parseMethodDescriptor y_Mod_word.1.desc).map (fun d => d.parameters.length) = some 7 := ⟨(gk_5 (List.mem_of_getElem? (i := 191) rfl) rfl), cz_Mod, cx_Mod.1, cx_Mod.2, by decide +kernel⟩
set_option maxRecDepth 100000 in
theorem mo_Mod_159 : mOk "CookedLawModel" 159 7 y_Mod_word := ⟨Or.inl (gk_5 (List.mem_of_getElem? (i := 189) rfl) rfl), mk_Mod_word⟩
set_option maxRecDepth 100000 in
theorem mk_Mod_begins : Cond.code y_Mod_begins.1 y_Mod_begins.2.1 y_Mod_begins.2.2.1 y_Mod_begins.2.2.2.1 ∈ gtb ∧ Cond.initialized y_Mod_begins.1.cls ∈ gtb ∧ y_Mod_begins.1.cls ≠ "java/lang/invoke/MethodHandle" ∧ y_Mod_begins.1.cls ≠ "java/lang/invoke/VarHandle" ∧ (parseMethodDescriptor y_Mod_begins.1.desc).map (fun d => d.parameters.length) = some 0 := ⟨(gk_5 (List.mem_of_getElem? (i := 199) rfl) rfl), cz_Mod, cx_Mod.1, cx_Mod.2, by decide +kernel⟩
set_option maxRecDepth 100000 in
theorem mo_Mod_163 : mOk "CookedLawModel" 163 0 y_Mod_begins := ⟨Or.inl (gk_5 (List.mem_of_getElem? (i := 196) rfl) rfl), mk_Mod_begins⟩
set_option maxRecDepth 100000 in
theorem mk_Mod_keepsRow : Cond.code y_Mod_keepsRow.1 y_Mod_keepsRow.2.1 y_Mod_keepsRow.2.2.1 y_Mod_keepsRow.2.2.2.1 ∈ gtb ∧ Cond.initialized y_Mod_keepsRow.1.cls ∈ gtb ∧ y_Mod_keepsRow.1.cls ≠ "java/lang/invoke/MethodHandle" ∧ y_Mod_keepsRow.1.cls ≠ "java/lang/invoke/VarHandle" ∧ (parseMethodDescriptor y_Mod_keepsRow.1.desc).map (fun d => d.parameters.length) = some 0 := ⟨(gk_5 (List.mem_of_getElem? (i := 203) rfl) rfl), cz_Mod, cx_Mod.1, cx_Mod.2, by decide +kernel⟩
set_option maxRecDepth 100000 in
theorem mo_Mod_166 : mOk "CookedLawModel" 166 0 y_Mod_keepsRow := ⟨Or.inl (gk_5 (List.mem_of_getElem? (i := 200) rfl) rfl), mk_Mod_keepsRow⟩
set_option maxRecDepth 100000 in
theorem mk_Mod_put : Cond.code y_Mod_put.1 y_Mod_put.2.1 y_Mod_put.2.2.1 y_Mod_put.2.2.2.1 ∈ gtb ∧ Cond.initialized y_Mod_put.1.cls ∈ gtb ∧ y_Mod_put.1.cls ≠ "java/lang/invoke/MethodHandle" ∧ y_Mod_put.1.cls ≠ "java/lang/invoke/VarHandle" ∧ (parseMethodDescriptor y_Mod_put.1.desc).map (fun d => d.parameters.length) = some 1 := ⟨(gk_6 (List.mem_of_getElem? (i := 184) rfl) rfl), cz_Mod, cx_Mod.1, cx_Mod.2, by decide +kernel⟩
set_option maxRecDepth 100000 in
theorem mo_Mod_172 : mOk "CookedLawModel" 172 1 y_Mod_put := ⟨Or.inl (gk_6 (List.mem_of_getElem? (i := 181) rfl) rfl), mk_Mod_put⟩
set_option maxRecDepth 100000 in
theorem mk_Mod_appends : Cond.code y_Mod_appends.1 y_Mod_appends.2.1 y_Mod_appends.2.2.1 y_Mod_appends.2.2.2.1 ∈ gtb ∧ Cond.initialized y_Mod_appends.1.cls ∈ gtb ∧ y_Mod_appends.1.cls ≠ "java/lang/invoke/MethodHandle" ∧ y_Mod_appends.1.cls ≠ "java/lang/invoke/VarHandle" ∧ (parseMethodDescriptor y_Mod_appends.1.desc).map (fun d => d.parameters.length) = some 2 := ⟨(gk_5 (List.mem_of_getElem? (i := 194) rfl) rfl), cz_Mod, cx_Mod.1, cx_Mod.2, by decide +kernel⟩
set_option maxRecDepth 100000 in
theorem mo_Mod_180 : mOk "CookedLawModel" 180 2 y_Mod_appends := ⟨Or.inl (gk_5 (List.mem_of_getElem? (i := 192) rfl) rfl), mk_Mod_appends⟩
set_option maxRecDepth 100000 in
theorem mk_Mod_byteAt : Cond.code y_Mod_byteAt.1 y_Mod_byteAt.2.1 y_Mod_byteAt.2.2.1 y_Mod_byteAt.2.2.2.1 ∈ gtb ∧ Cond.initialized y_Mod_byteAt.1.cls ∈ gtb ∧ y_Mod_byteAt.1.cls ≠ "java/lang/invoke/MethodHandle" ∧ y_Mod_byteAt.1.cls ≠ "java/lang/invoke/VarHandle" ∧ (parseMethodDescriptor y_Mod_byteAt.1.desc).map (fun d => d.parameters.length) = some 1 := ⟨(gk_6 (List.mem_of_getElem? (i := 200) rfl) rfl), cz_Mod, cx_Mod.1, cx_Mod.2, by decide +kernel⟩
set_option maxRecDepth 100000 in
theorem mo_Mod_187 : mOk "CookedLawModel" 187 1 y_Mod_byteAt := ⟨Or.inl (gk_6 (List.mem_of_getElem? (i := 197) rfl) rfl), mk_Mod_byteAt⟩
set_option maxRecDepth 100000 in
theorem mk_Mod_token : Cond.code y_Mod_token.1 y_Mod_token.2.1 y_Mod_token.2.2.1 y_Mod_token.2.2.2.1 ∈ gtb ∧ Cond.initialized y_Mod_token.1.cls ∈ gtb ∧ y_Mod_token.1.cls ≠ "java/lang/invoke/MethodHandle" ∧ y_Mod_token.1.cls ≠ "java/lang/invoke/VarHandle" ∧ (parseMethodDescriptor y_Mod_token.1.desc).map (fun d => d.parameters.length) = some 4 := ⟨(gk_6 (List.mem_of_getElem? (i := 204) rfl) rfl), cz_Mod, cx_Mod.1, cx_Mod.2, by decide +kernel⟩
set_option maxRecDepth 100000 in
theorem mo_Mod_191 : mOk "CookedLawModel" 191 4 y_Mod_token := ⟨Or.inl (gk_6 (List.mem_of_getElem? (i := 201) rfl) rfl), mk_Mod_token⟩
set_option maxRecDepth 100000 in
theorem mk_Mod_isLetter : Cond.code y_Mod_isLetter.1 y_Mod_isLetter.2.1 y_Mod_isLetter.2.2.1 y_Mod_isLetter.2.2.2.1 ∈ gtb ∧ Cond.initialized y_Mod_isLetter.1.cls ∈ gtb ∧ y_Mod_isLetter.1.cls ≠ "java/lang/invoke/MethodHandle" ∧ y_Mod_isLetter.1.cls ≠ "java/lang/invoke/VarHandle" ∧ (parseMethodDescriptor y_Mod_isLetter.1.desc).map (fun d => d.parameters.length) = some 1 := ⟨(gk_6 (List.mem_of_getElem? (i := 207) rfl) rfl), cz_Mod, cx_Mod.1, cx_Mod.2, by decide +kernel⟩
set_option maxRecDepth 100000 in
theorem mo_Mod_195 : mOk "CookedLawModel" 195 1 y_Mod_isLetter := ⟨Or.inl (gk_6 (List.mem_of_getElem? (i := 205) rfl) rfl), mk_Mod_isLetter⟩
set_option maxRecDepth 100000 in
theorem mk_Mod_isDigit : Cond.code y_Mod_isDigit.1 y_Mod_isDigit.2.1 y_Mod_isDigit.2.2.1 y_Mod_isDigit.2.2.2.1 ∈ gtb ∧ Cond.initialized y_Mod_isDigit.1.cls ∈ gtb ∧ y_Mod_isDigit.1.cls ≠ "java/lang/invoke/MethodHandle" ∧ y_Mod_isDigit.1.cls ≠ "java/lang/invoke/VarHandle" ∧ (parseMethodDescriptor y_Mod_isDigit.1.desc).map (fun d => d.parameters.length) = some 1 := ⟨(gk_6 (List.mem_of_getElem? (i := 210) rfl) rfl), cz_Mod, cx_Mod.1, cx_Mod.2, by decide +kernel⟩
set_option maxRecDepth 100000 in
theorem mo_Mod_199 : mOk "CookedLawModel" 199 1 y_Mod_isDigit := ⟨Or.inl (gk_6 (List.mem_of_getElem? (i := 208) rfl) rfl), mk_Mod_isDigit⟩
set_option maxRecDepth 100000 in
theorem mk_Mod_sign : Cond.code y_Mod_sign.1 y_Mod_sign.2.1 y_Mod_sign.2.2.1 y_Mod_sign.2.2.2.1 ∈ gtb ∧ Cond.initialized y_Mod_sign.1.cls ∈ gtb ∧ y_Mod_sign.1.cls ≠ "java/lang/invoke/MethodHandle" ∧ y_Mod_sign.1.cls ≠ "java/lang/invoke/VarHandle" ∧ (parseMethodDescriptor y_Mod_sign.1.desc).map (fun d => d.parameters.length) = some 3 := ⟨(gk_6 (List.mem_of_getElem? (i := 214) rfl) rfl), cz_Mod, cx_Mod.1, cx_Mod.2, by decide +kernel⟩
set_option maxRecDepth 100000 in
theorem mo_Mod_202 : mOk "CookedLawModel" 202 3 y_Mod_sign := ⟨Or.inl (gk_6 (List.mem_of_getElem? (i := 211) rfl) rfl), mk_Mod_sign⟩
set_option maxRecDepth 100000 in
theorem mk_Mod_fail : Cond.code y_Mod_fail.1 y_Mod_fail.2.1 y_Mod_fail.2.2.1 y_Mod_fail.2.2.2.1 ∈ gtb ∧ Cond.initialized y_Mod_fail.1.cls ∈ gtb ∧ y_Mod_fail.1.cls ≠ "java/lang/invoke/MethodHandle" ∧ y_Mod_fail.1.cls ≠ "java/lang/invoke/VarHandle" ∧ (parseMethodDescriptor y_Mod_fail.1.desc).map (fun d => d.parameters.length) = some 1 := ⟨(gk_6 (List.mem_of_getElem? (i := 230) rfl) rfl), cz_Mod, cx_Mod.1, cx_Mod.2, by decide +kernel⟩
set_option maxRecDepth 100000 in
theorem mo_Mod_221 : mOk "CookedLawModel" 221 1 y_Mod_fail := ⟨Or.inl (gk_6 (List.mem_of_getElem? (i := 227) rfl) rfl), mk_Mod_fail⟩
set_option maxRecDepth 100000 in
theorem mk_Mod_is : Cond.code y_Mod_is.1 y_Mod_is.2.1 y_Mod_is.2.2.1 y_Mod_is.2.2.2.1 ∈ gtb ∧ Cond.initialized y_Mod_is.1.cls ∈ gtb ∧ y_Mod_is.1.cls ≠ "java/lang/invoke/MethodHandle" ∧ y_Mod_is.1.cls ≠ "java/lang/invoke/VarHandle" ∧ (parseMethodDescriptor y_Mod_is.1.desc).map (fun d => d.parameters.length) = some 1 := ⟨(gk_6 (List.mem_of_getElem? (i := 218) rfl) rfl), cz_Mod, cx_Mod.1, cx_Mod.2, by decide +kernel⟩
set_option maxRecDepth 100000 in
theorem mo_Mod_224 : mOk "CookedLawModel" 224 1 y_Mod_is := ⟨Or.inl (gk_6 (List.mem_of_getElem? (i := 215) rfl) rfl), mk_Mod_is⟩
set_option maxRecDepth 100000 in
theorem mk_Mod_goesOn : Cond.code y_Mod_goesOn.1 y_Mod_goesOn.2.1 y_Mod_goesOn.2.2.1 y_Mod_goesOn.2.2.2.1 ∈ gtb ∧ Cond.initialized y_Mod_goesOn.1.cls ∈ gtb ∧ y_Mod_goesOn.1.cls ≠ "java/lang/invoke/MethodHandle" ∧ y_Mod_goesOn.1.cls ≠ "java/lang/invoke/VarHandle" ∧ (parseMethodDescriptor y_Mod_goesOn.1.desc).map (fun d => d.parameters.length) = some 0 := ⟨(gk_6 (List.mem_of_getElem? (i := 234) rfl) rfl), cz_Mod, cx_Mod.1, cx_Mod.2, by decide +kernel⟩
set_option maxRecDepth 100000 in
theorem mo_Mod_227 : mOk "CookedLawModel" 227 0 y_Mod_goesOn := ⟨Or.inl (gk_6 (List.mem_of_getElem? (i := 231) rfl) rfl), mk_Mod_goesOn⟩
set_option maxRecDepth 100000 in
theorem mk_Mod_cut : Cond.code y_Mod_cut.1 y_Mod_cut.2.1 y_Mod_cut.2.2.1 y_Mod_cut.2.2.2.1 ∈ gtb ∧ Cond.initialized y_Mod_cut.1.cls ∈ gtb ∧ y_Mod_cut.1.cls ≠ "java/lang/invoke/MethodHandle" ∧ y_Mod_cut.1.cls ≠ "java/lang/invoke/VarHandle" ∧ (parseMethodDescriptor y_Mod_cut.1.desc).map (fun d => d.parameters.length) = some 0 := ⟨(gk_6 (List.mem_of_getElem? (i := 196) rfl) rfl), cz_Mod, cx_Mod.1, cx_Mod.2, by decide +kernel⟩
set_option maxRecDepth 100000 in
theorem mo_Mod_230 : mOk "CookedLawModel" 230 0 y_Mod_cut := ⟨Or.inl (gk_6 (List.mem_of_getElem? (i := 193) rfl) rfl), mk_Mod_cut⟩
set_option maxRecDepth 100000 in
theorem mk_Mod_tellOne : Cond.code y_Mod_tellOne.1 y_Mod_tellOne.2.1 y_Mod_tellOne.2.2.1 y_Mod_tellOne.2.2.2.1 ∈ gtb ∧ Cond.initialized y_Mod_tellOne.1.cls ∈ gtb ∧ y_Mod_tellOne.1.cls ≠ "java/lang/invoke/MethodHandle" ∧ y_Mod_tellOne.1.cls ≠ "java/lang/invoke/VarHandle" ∧ (parseMethodDescriptor y_Mod_tellOne.1.desc).map (fun d => d.parameters.length) = some 0 := ⟨(gk_6 (List.mem_of_getElem? (i := 222) rfl) rfl), cz_Mod, cx_Mod.1, cx_Mod.2, by decide +kernel⟩
set_option maxRecDepth 100000 in
theorem mo_Mod_251 : mOk "CookedLawModel" 251 0 y_Mod_tellOne := ⟨Or.inl (gk_6 (List.mem_of_getElem? (i := 219) rfl) rfl), mk_Mod_tellOne⟩
set_option maxRecDepth 100000 in
theorem mk_Mod_roomFor : Cond.code y_Mod_roomFor.1 y_Mod_roomFor.2.1 y_Mod_roomFor.2.2.1 y_Mod_roomFor.2.2.2.1 ∈ gtb ∧ Cond.initialized y_Mod_roomFor.1.cls ∈ gtb ∧ y_Mod_roomFor.1.cls ≠ "java/lang/invoke/MethodHandle" ∧ y_Mod_roomFor.1.cls ≠ "java/lang/invoke/VarHandle" ∧ (parseMethodDescriptor y_Mod_roomFor.1.desc).map (fun d => d.parameters.length) = some 2 := ⟨(gk_6 (List.mem_of_getElem? (i := 226) rfl) rfl), cz_Mod, cx_Mod.1, cx_Mod.2, by decide +kernel⟩
set_option maxRecDepth 100000 in
theorem mo_Mod_260 : mOk "CookedLawModel" 260 2 y_Mod_roomFor := ⟨Or.inl (gk_6 (List.mem_of_getElem? (i := 223) rfl) rfl), mk_Mod_roomFor⟩
set_option maxRecDepth 100000 in
theorem mk_Mod_tellFood : Cond.code y_Mod_tellFood.1 y_Mod_tellFood.2.1 y_Mod_tellFood.2.2.1 y_Mod_tellFood.2.2.2.1 ∈ gtb ∧ Cond.initialized y_Mod_tellFood.1.cls ∈ gtb ∧ y_Mod_tellFood.1.cls ≠ "java/lang/invoke/MethodHandle" ∧ y_Mod_tellFood.1.cls ≠ "java/lang/invoke/VarHandle" ∧ (parseMethodDescriptor y_Mod_tellFood.1.desc).map (fun d => d.parameters.length) = some 0 := ⟨(gk_6 (List.mem_of_getElem? (i := 238) rfl) rfl), cz_Mod, cx_Mod.1, cx_Mod.2, by decide +kernel⟩
set_option maxRecDepth 100000 in
theorem mo_Mod_264 : mOk "CookedLawModel" 264 0 y_Mod_tellFood := ⟨Or.inl (gk_6 (List.mem_of_getElem? (i := 235) rfl) rfl), mk_Mod_tellFood⟩
set_option maxRecDepth 100000 in
theorem mk_Mod_tellDish : Cond.code y_Mod_tellDish.1 y_Mod_tellDish.2.1 y_Mod_tellDish.2.2.1 y_Mod_tellDish.2.2.2.1 ∈ gtb ∧ Cond.initialized y_Mod_tellDish.1.cls ∈ gtb ∧ y_Mod_tellDish.1.cls ≠ "java/lang/invoke/MethodHandle" ∧ y_Mod_tellDish.1.cls ≠ "java/lang/invoke/VarHandle" ∧ (parseMethodDescriptor y_Mod_tellDish.1.desc).map (fun d => d.parameters.length) = some 0 := ⟨(gk_7 (List.mem_of_getElem? (i := 22) rfl) rfl), cz_Mod, cx_Mod.1, cx_Mod.2, by decide +kernel⟩
set_option maxRecDepth 100000 in
theorem mo_Mod_267 : mOk "CookedLawModel" 267 0 y_Mod_tellDish := ⟨Or.inl (gk_7 (List.mem_of_getElem? (i := 19) rfl) rfl), mk_Mod_tellDish⟩
set_option maxRecDepth 100000 in
theorem mk_Mod_named : Cond.code y_Mod_named.1 y_Mod_named.2.1 y_Mod_named.2.2.1 y_Mod_named.2.2.2.1 ∈ gtb ∧ Cond.initialized y_Mod_named.1.cls ∈ gtb ∧ y_Mod_named.1.cls ≠ "java/lang/invoke/MethodHandle" ∧ y_Mod_named.1.cls ≠ "java/lang/invoke/VarHandle" ∧ (parseMethodDescriptor y_Mod_named.1.desc).map (fun d => d.parameters.length) = some 0 := ⟨(gk_7 (List.mem_of_getElem? (i := 2) rfl) rfl), cz_Mod, cx_Mod.1, cx_Mod.2, by decide +kernel⟩
set_option maxRecDepth 100000 in
theorem mo_Mod_270 : mOk "CookedLawModel" 270 0 y_Mod_named := ⟨Or.inl (gk_6 (List.mem_of_getElem? (i := 239) rfl) rfl), mk_Mod_named⟩
set_option maxRecDepth 100000 in
theorem mk_Mod_bounded : Cond.code y_Mod_bounded.1 y_Mod_bounded.2.1 y_Mod_bounded.2.2.1 y_Mod_bounded.2.2.2.1 ∈ gtb ∧ Cond.initialized y_Mod_bounded.1.cls ∈ gtb ∧ y_Mod_bounded.1.cls ≠ "java/lang/invoke/MethodHandle" ∧ y_Mod_bounded.1.cls ≠ "java/lang/invoke/VarHandle" ∧ (parseMethodDescriptor y_Mod_bounded.1.desc).map (fun d => d.parameters.length) = some 2 := ⟨(gk_7 (List.mem_of_getElem? (i := 14) rfl) rfl), cz_Mod, cx_Mod.1, cx_Mod.2, by decide +kernel⟩
set_option maxRecDepth 100000 in
theorem mo_Mod_274 : mOk "CookedLawModel" 274 2 y_Mod_bounded := ⟨Or.inl (gk_7 (List.mem_of_getElem? (i := 11) rfl) rfl), mk_Mod_bounded⟩
set_option maxRecDepth 100000 in
theorem mk_Mod_ends : Cond.code y_Mod_ends.1 y_Mod_ends.2.1 y_Mod_ends.2.2.1 y_Mod_ends.2.2.2.1 ∈ gtb ∧ Cond.initialized y_Mod_ends.1.cls ∈ gtb ∧ y_Mod_ends.1.cls ≠ "java/lang/invoke/MethodHandle" ∧ y_Mod_ends.1.cls ≠ "java/lang/invoke/VarHandle" ∧ (parseMethodDescriptor y_Mod_ends.1.desc).map (fun d => d.parameters.length) = some 2 := ⟨(gk_7 (List.mem_of_getElem? (i := 18) rfl) rfl), cz_Mod, cx_Mod.1, cx_Mod.2, by decide +kernel⟩
set_option maxRecDepth 100000 in
theorem mo_Mod_278 : mOk "CookedLawModel" 278 2 y_Mod_ends := ⟨Or.inl (gk_7 (List.mem_of_getElem? (i := 15) rfl) rfl), mk_Mod_ends⟩
set_option maxRecDepth 100000 in
theorem mk_Mod_must : Cond.code y_Mod_must.1 y_Mod_must.2.1 y_Mod_must.2.2.1 y_Mod_must.2.2.2.1 ∈ gtb ∧ Cond.initialized y_Mod_must.1.cls ∈ gtb ∧ y_Mod_must.1.cls ≠ "java/lang/invoke/MethodHandle" ∧ y_Mod_must.1.cls ≠ "java/lang/invoke/VarHandle" ∧ (parseMethodDescriptor y_Mod_must.1.desc).map (fun d => d.parameters.length) = some 1 := ⟨(gk_7 (List.mem_of_getElem? (i := 6) rfl) rfl), cz_Mod, cx_Mod.1, cx_Mod.2, by decide +kernel⟩
set_option maxRecDepth 100000 in
theorem mo_Mod_281 : mOk "CookedLawModel" 281 1 y_Mod_must := ⟨Or.inl (gk_7 (List.mem_of_getElem? (i := 3) rfl) rfl), mk_Mod_must⟩
set_option maxRecDepth 100000 in
theorem mk_Mod_tellLaw : Cond.code y_Mod_tellLaw.1 y_Mod_tellLaw.2.1 y_Mod_tellLaw.2.2.1 y_Mod_tellLaw.2.2.2.1 ∈ gtb ∧ Cond.initialized y_Mod_tellLaw.1.cls ∈ gtb ∧ y_Mod_tellLaw.1.cls ≠ "java/lang/invoke/MethodHandle" ∧ y_Mod_tellLaw.1.cls ≠ "java/lang/invoke/VarHandle" ∧ (parseMethodDescriptor y_Mod_tellLaw.1.desc).map (fun d => d.parameters.length) = some 1 := ⟨(gk_7 (List.mem_of_getElem? (i := 30) rfl) rfl), cz_Mod, cx_Mod.1, cx_Mod.2, by decide +kernel⟩
set_option maxRecDepth 100000 in
theorem mo_Mod_284 : mOk "CookedLawModel" 284 1 y_Mod_tellLaw := ⟨Or.inl (gk_7 (List.mem_of_getElem? (i := 27) rfl) rfl), mk_Mod_tellLaw⟩
set_option maxRecDepth 100000 in
theorem mk_Mod_wrong : Cond.code y_Mod_wrong.1 y_Mod_wrong.2.1 y_Mod_wrong.2.2.1 y_Mod_wrong.2.2.2.1 ∈ gtb ∧ Cond.initialized y_Mod_wrong.1.cls ∈ gtb ∧ y_Mod_wrong.1.cls ≠ "java/lang/invoke/MethodHandle" ∧ y_Mod_wrong.1.cls ≠ "java/lang/invoke/VarHandle" ∧ (parseMethodDescriptor y_Mod_wrong.1.desc).map (fun d => d.parameters.length) = some 2 := ⟨(gk_7 (List.mem_of_getElem? (i := 10) rfl) rfl), cz_Mod, cx_Mod.1, cx_Mod.2, by decide +kernel⟩
set_option maxRecDepth 100000 in
theorem mo_Mod_287 : mOk "CookedLawModel" 287 2 y_Mod_wrong := ⟨Or.inl (gk_7 (List.mem_of_getElem? (i := 7) rfl) rfl), mk_Mod_wrong⟩
set_option maxRecDepth 100000 in
theorem mk_Mod_knownFood : Cond.code y_Mod_knownFood.1 y_Mod_knownFood.2.1 y_Mod_knownFood.2.2.1 y_Mod_knownFood.2.2.2.1 ∈ gtb ∧ Cond.initialized y_Mod_knownFood.1.cls ∈ gtb ∧ y_Mod_knownFood.1.cls ≠ "java/lang/invoke/MethodHandle" ∧ y_Mod_knownFood.1.cls ≠ "java/lang/invoke/VarHandle" ∧ (parseMethodDescriptor y_Mod_knownFood.1.desc).map (fun d => d.parameters.length) = some 0 := ⟨(gk_7 (List.mem_of_getElem? (i := 26) rfl) rfl), cz_Mod, cx_Mod.1, cx_Mod.2, by decide +kernel⟩
set_option maxRecDepth 100000 in
theorem mo_Mod_290 : mOk "CookedLawModel" 290 0 y_Mod_knownFood := ⟨Or.inl (gk_7 (List.mem_of_getElem? (i := 23) rfl) rfl), mk_Mod_knownFood⟩
set_option maxRecDepth 100000 in
theorem mk_Mod_expression : Cond.code y_Mod_expression.1 y_Mod_expression.2.1 y_Mod_expression.2.2.1 y_Mod_expression.2.2.2.1 ∈ gtb ∧ Cond.initialized y_Mod_expression.1.cls ∈ gtb ∧ y_Mod_expression.1.cls ≠ "java/lang/invoke/MethodHandle" ∧ y_Mod_expression.1.cls ≠ "java/lang/invoke/VarHandle" ∧ (parseMethodDescriptor y_Mod_expression.1.desc).map (fun d => d.parameters.length) = some 0 := ⟨(gk_7 (List.mem_of_getElem? (i := 34) rfl) rfl), cz_Mod, cx_Mod.1, cx_Mod.2, by decide +kernel⟩
set_option maxRecDepth 100000 in
theorem mo_Mod_293 : mOk "CookedLawModel" 293 0 y_Mod_expression := ⟨Or.inl (gk_7 (List.mem_of_getElem? (i := 31) rfl) rfl), mk_Mod_expression⟩
set_option maxRecDepth 100000 in
theorem mk_Mod_term : Cond.code y_Mod_term.1 y_Mod_term.2.1 y_Mod_term.2.2.1 y_Mod_term.2.2.2.1 ∈ gtb ∧ Cond.initialized y_Mod_term.1.cls ∈ gtb ∧ y_Mod_term.1.cls ≠ "java/lang/invoke/MethodHandle" ∧ y_Mod_term.1.cls ≠ "java/lang/invoke/VarHandle" ∧ (parseMethodDescriptor y_Mod_term.1.desc).map (fun d => d.parameters.length) = some 0 := ⟨(gk_7 (List.mem_of_getElem? (i := 50) rfl) rfl), cz_Mod, cx_Mod.1, cx_Mod.2, by decide +kernel⟩
set_option maxRecDepth 100000 in
theorem mo_Mod_296 : mOk "CookedLawModel" 296 0 y_Mod_term := ⟨Or.inl (gk_7 (List.mem_of_getElem? (i := 47) rfl) rfl), mk_Mod_term⟩
set_option maxRecDepth 100000 in
theorem mk_Mod_emit : Cond.code y_Mod_emit.1 y_Mod_emit.2.1 y_Mod_emit.2.2.1 y_Mod_emit.2.2.2.1 ∈ gtb ∧ Cond.initialized y_Mod_emit.1.cls ∈ gtb ∧ y_Mod_emit.1.cls ≠ "java/lang/invoke/MethodHandle" ∧ y_Mod_emit.1.cls ≠ "java/lang/invoke/VarHandle" ∧ (parseMethodDescriptor y_Mod_emit.1.desc).map (fun d => d.parameters.length) = some 2 := ⟨(gk_7 (List.mem_of_getElem? (i := 42) rfl) rfl), cz_Mod, cx_Mod.1, cx_Mod.2, by decide +kernel⟩
set_option maxRecDepth 100000 in
theorem mo_Mod_302 : mOk "CookedLawModel" 302 2 y_Mod_emit := ⟨Or.inl (gk_7 (List.mem_of_getElem? (i := 39) rfl) rfl), mk_Mod_emit⟩
set_option maxRecDepth 100000 in
theorem mk_Mod_unit : Cond.code y_Mod_unit.1 y_Mod_unit.2.1 y_Mod_unit.2.2.1 y_Mod_unit.2.2.2.1 ∈ gtb ∧ Cond.initialized y_Mod_unit.1.cls ∈ gtb ∧ y_Mod_unit.1.cls ≠ "java/lang/invoke/MethodHandle" ∧ y_Mod_unit.1.cls ≠ "java/lang/invoke/VarHandle" ∧ (parseMethodDescriptor y_Mod_unit.1.desc).map (fun d => d.parameters.length) = some 0 := ⟨(gk_7 (List.mem_of_getElem? (i := 38) rfl) rfl), cz_Mod, cx_Mod.1, cx_Mod.2, by decide +kernel⟩
set_option maxRecDepth 100000 in
theorem mo_Mod_305 : mOk "CookedLawModel" 305 0 y_Mod_unit := ⟨Or.inl (gk_7 (List.mem_of_getElem? (i := 35) rfl) rfl), mk_Mod_unit⟩
set_option maxRecDepth 100000 in
theorem mk_Mod_comesOut : Cond.code y_Mod_comesOut.1 y_Mod_comesOut.2.1 y_Mod_comesOut.2.2.1 y_Mod_comesOut.2.2.2.1 ∈ gtb ∧ Cond.initialized y_Mod_comesOut.1.cls ∈ gtb ∧ y_Mod_comesOut.1.cls ≠ "java/lang/invoke/MethodHandle" ∧ y_Mod_comesOut.1.cls ≠ "java/lang/invoke/VarHandle" ∧ (parseMethodDescriptor y_Mod_comesOut.1.desc).map (fun d => d.parameters.length) = some 1 := ⟨(gk_7 (List.mem_of_getElem? (i := 46) rfl) rfl), cz_Mod, cx_Mod.1, cx_Mod.2, by decide +kernel⟩
set_option maxRecDepth 100000 in
theorem mo_Mod_308 : mOk "CookedLawModel" 308 1 y_Mod_comesOut := ⟨Or.inl (gk_7 (List.mem_of_getElem? (i := 43) rfl) rfl), mk_Mod_comesOut⟩
set_option maxRecDepth 100000 in
theorem mk_Mod_in : Cond.code y_Mod_in.1 y_Mod_in.2.1 y_Mod_in.2.2.1 y_Mod_in.2.2.2.1 ∈ gtb ∧ Cond.initialized y_Mod_in.1.cls ∈ gtb ∧ y_Mod_in.1.cls ≠ "java/lang/invoke/MethodHandle" ∧ y_Mod_in.1.cls ≠ "java/lang/invoke/VarHandle" ∧ (parseMethodDescriptor y_Mod_in.1.desc).map (fun d => d.parameters.length) = some 3 := ⟨(gk_7 (List.mem_of_getElem? (i := 65) rfl) rfl), cz_Mod, cx_Mod.1, cx_Mod.2, by decide +kernel⟩
set_option maxRecDepth 100000 in
theorem mo_Mod_316 : mOk "CookedLawModel" 316 3 y_Mod_in := ⟨Or.inl (gk_7 (List.mem_of_getElem? (i := 63) rfl) rfl), mk_Mod_in⟩
set_option maxRecDepth 100000 in
theorem mk_Mod_mixed : Cond.code y_Mod_mixed.1 y_Mod_mixed.2.1 y_Mod_mixed.2.2.1 y_Mod_mixed.2.2.2.1 ∈ gtb ∧ Cond.initialized y_Mod_mixed.1.cls ∈ gtb ∧ y_Mod_mixed.1.cls ≠ "java/lang/invoke/MethodHandle" ∧ y_Mod_mixed.1.cls ≠ "java/lang/invoke/VarHandle" ∧ (parseMethodDescriptor y_Mod_mixed.1.desc).map (fun d => d.parameters.length) = some 2 := ⟨(gk_7 (List.mem_of_getElem? (i := 163) rfl) rfl), cz_Mod, cx_Mod.1, cx_Mod.2, by decide +kernel⟩
set_option maxRecDepth 100000 in
theorem mo_Mod_324 : mOk "CookedLawModel" 324 2 y_Mod_mixed := ⟨Or.inl (gk_7 (List.mem_of_getElem? (i := 161) rfl) rfl), mk_Mod_mixed⟩
set_option maxRecDepth 100000 in
theorem mk_Mod_lawTells : Cond.code y_Mod_lawTells.1 y_Mod_lawTells.2.1 y_Mod_lawTells.2.2.1 y_Mod_lawTells.2.2.2.1 ∈ gtb ∧ Cond.initialized y_Mod_lawTells.1.cls ∈ gtb ∧ y_Mod_lawTells.1.cls ≠ "java/lang/invoke/MethodHandle" ∧ y_Mod_lawTells.1.cls ≠ "java/lang/invoke/VarHandle" ∧ (parseMethodDescriptor y_Mod_lawTells.1.desc).map (fun d => d.parameters.length) = some 1 := ⟨(gk_7 (List.mem_of_getElem? (i := 105) rfl) rfl), cz_Mod, cx_Mod.1, cx_Mod.2, by decide +kernel⟩
set_option maxRecDepth 100000 in
theorem mo_Mod_327 : mOk "CookedLawModel" 327 1 y_Mod_lawTells := ⟨Or.inl (gk_7 (List.mem_of_getElem? (i := 102) rfl) rfl), mk_Mod_lawTells⟩
set_option maxRecDepth 100000 in
theorem mk_Mod_held : Cond.code y_Mod_held.1 y_Mod_held.2.1 y_Mod_held.2.2.1 y_Mod_held.2.2.2.1 ∈ gtb ∧ Cond.initialized y_Mod_held.1.cls ∈ gtb ∧ y_Mod_held.1.cls ≠ "java/lang/invoke/MethodHandle" ∧ y_Mod_held.1.cls ≠ "java/lang/invoke/VarHandle" ∧ (parseMethodDescriptor y_Mod_held.1.desc).map (fun d => d.parameters.length) = some 3 := ⟨(gk_7 (List.mem_of_getElem? (i := 112) rfl) rfl), cz_Mod, cx_Mod.1, cx_Mod.2, by decide +kernel⟩
set_option maxRecDepth 100000 in
theorem mo_Mod_330 : mOk "CookedLawModel" 330 3 y_Mod_held := ⟨Or.inl (gk_7 (List.mem_of_getElem? (i := 110) rfl) rfl), mk_Mod_held⟩
set_option maxRecDepth 100000 in
theorem mk_Mod_termOf : Cond.code y_Mod_termOf.1 y_Mod_termOf.2.1 y_Mod_termOf.2.2.1 y_Mod_termOf.2.2.2.1 ∈ gtb ∧ Cond.initialized y_Mod_termOf.1.cls ∈ gtb ∧ y_Mod_termOf.1.cls ≠ "java/lang/invoke/MethodHandle" ∧ y_Mod_termOf.1.cls ≠ "java/lang/invoke/VarHandle" ∧ (parseMethodDescriptor y_Mod_termOf.1.desc).map (fun d => d.parameters.length) = some 2 := ⟨(gk_7 (List.mem_of_getElem? (i := 109) rfl) rfl), cz_Mod, cx_Mod.1, cx_Mod.2, by decide +kernel⟩
set_option maxRecDepth 100000 in
theorem mo_Mod_333 : mOk "CookedLawModel" 333 2 y_Mod_termOf := ⟨Or.inl (gk_7 (List.mem_of_getElem? (i := 106) rfl) rfl), mk_Mod_termOf⟩
set_option maxRecDepth 100000 in
theorem mk_Mod_looks : Cond.code y_Mod_looks.1 y_Mod_looks.2.1 y_Mod_looks.2.2.1 y_Mod_looks.2.2.2.1 ∈ gtb ∧ Cond.initialized y_Mod_looks.1.cls ∈ gtb ∧ y_Mod_looks.1.cls ≠ "java/lang/invoke/MethodHandle" ∧ y_Mod_looks.1.cls ≠ "java/lang/invoke/VarHandle" ∧ (parseMethodDescriptor y_Mod_looks.1.desc).map (fun d => d.parameters.length) = some 0 := ⟨(gk_7 (List.mem_of_getElem? (i := 97) rfl) rfl), cz_Mod, cx_Mod.1, cx_Mod.2, by decide +kernel⟩
set_option maxRecDepth 100000 in
theorem mo_Mod_336 : mOk "CookedLawModel" 336 0 y_Mod_looks := ⟨Or.inl (gk_7 (List.mem_of_getElem? (i := 94) rfl) rfl), mk_Mod_looks⟩
set_option maxRecDepth 100000 in
theorem mk_Mod_potMany : Cond.code y_Mod_potMany.1 y_Mod_potMany.2.1 y_Mod_potMany.2.2.1 y_Mod_potMany.2.2.2.1 ∈ gtb ∧ Cond.initialized y_Mod_potMany.1.cls ∈ gtb ∧ y_Mod_potMany.1.cls ≠ "java/lang/invoke/MethodHandle" ∧ y_Mod_potMany.1.cls ≠ "java/lang/invoke/VarHandle" ∧ (parseMethodDescriptor y_Mod_potMany.1.desc).map (fun d => d.parameters.length) = some 0 := ⟨(gk_7 (List.mem_of_getElem? (i := 85) rfl) rfl), cz_Mod, cx_Mod.1, cx_Mod.2, by decide +kernel⟩
set_option maxRecDepth 100000 in
theorem mo_Mod_339 : mOk "CookedLawModel" 339 0 y_Mod_potMany := ⟨Or.inl (gk_7 (List.mem_of_getElem? (i := 82) rfl) rfl), mk_Mod_potMany⟩
set_option maxRecDepth 100000 in
theorem mk_Mod_asks : Cond.code y_Mod_asks.1 y_Mod_asks.2.1 y_Mod_asks.2.2.1 y_Mod_asks.2.2.2.1 ∈ gtb ∧ Cond.initialized y_Mod_asks.1.cls ∈ gtb ∧ y_Mod_asks.1.cls ≠ "java/lang/invoke/MethodHandle" ∧ y_Mod_asks.1.cls ≠ "java/lang/invoke/VarHandle" ∧ (parseMethodDescriptor y_Mod_asks.1.desc).map (fun d => d.parameters.length) = some 4 := ⟨(gk_7 (List.mem_of_getElem? (i := 101) rfl) rfl), cz_Mod, cx_Mod.1, cx_Mod.2, by decide +kernel⟩
set_option maxRecDepth 100000 in
theorem mo_Mod_342 : mOk "CookedLawModel" 342 4 y_Mod_asks := ⟨Or.inl (gk_7 (List.mem_of_getElem? (i := 98) rfl) rfl), mk_Mod_asks⟩
set_option maxRecDepth 100000 in
theorem mk_Mod_boundBy : Cond.code y_Mod_boundBy.1 y_Mod_boundBy.2.1 y_Mod_boundBy.2.2.1 y_Mod_boundBy.2.2.2.1 ∈ gtb ∧ Cond.initialized y_Mod_boundBy.1.cls ∈ gtb ∧ y_Mod_boundBy.1.cls ≠ "java/lang/invoke/MethodHandle" ∧ y_Mod_boundBy.1.cls ≠ "java/lang/invoke/VarHandle" ∧ (parseMethodDescriptor y_Mod_boundBy.1.desc).map (fun d => d.parameters.length) = some 4 := ⟨(gk_7 (List.mem_of_getElem? (i := 132) rfl) rfl), cz_Mod, cx_Mod.1, cx_Mod.2, by decide +kernel⟩
set_option maxRecDepth 100000 in
theorem mo_Mod_346 : mOk "CookedLawModel" 346 4 y_Mod_boundBy := ⟨Or.inl (gk_7 (List.mem_of_getElem? (i := 129) rfl) rfl), mk_Mod_boundBy⟩
set_option maxRecDepth 100000 in
theorem mk_Mod_boundNow : Cond.code y_Mod_boundNow.1 y_Mod_boundNow.2.1 y_Mod_boundNow.2.2.1 y_Mod_boundNow.2.2.2.1 ∈ gtb ∧ Cond.initialized y_Mod_boundNow.1.cls ∈ gtb ∧ y_Mod_boundNow.1.cls ≠ "java/lang/invoke/MethodHandle" ∧ y_Mod_boundNow.1.cls ≠ "java/lang/invoke/VarHandle" ∧ (parseMethodDescriptor y_Mod_boundNow.1.desc).map (fun d => d.parameters.length) = some 2 := ⟨(gk_7 (List.mem_of_getElem? (i := 128) rfl) rfl), cz_Mod, cx_Mod.1, cx_Mod.2, by decide +kernel⟩
set_option maxRecDepth 100000 in
theorem mo_Mod_349 : mOk "CookedLawModel" 349 2 y_Mod_boundNow := ⟨Or.inl (gk_7 (List.mem_of_getElem? (i := 125) rfl) rfl), mk_Mod_boundNow⟩
set_option maxRecDepth 100000 in
theorem mk_Mod_isFree : Cond.code y_Mod_isFree.1 y_Mod_isFree.2.1 y_Mod_isFree.2.2.1 y_Mod_isFree.2.2.2.1 ∈ gtb ∧ Cond.initialized y_Mod_isFree.1.cls ∈ gtb ∧ y_Mod_isFree.1.cls ≠ "java/lang/invoke/MethodHandle" ∧ y_Mod_isFree.1.cls ≠ "java/lang/invoke/VarHandle" ∧ (parseMethodDescriptor y_Mod_isFree.1.desc).map (fun d => d.parameters.length) = some 2 := ⟨(gk_7 (List.mem_of_getElem? (i := 144) rfl) rfl), cz_Mod, cx_Mod.1, cx_Mod.2, by decide +kernel⟩
set_option maxRecDepth 100000 in
theorem mo_Mod_352 : mOk "CookedLawModel" 352 2 y_Mod_isFree := ⟨Or.inl (gk_7 (List.mem_of_getElem? (i := 141) rfl) rfl), mk_Mod_isFree⟩
set_option maxRecDepth 100000 in
theorem mk_Mod_fillsPot : Cond.code y_Mod_fillsPot.1 y_Mod_fillsPot.2.1 y_Mod_fillsPot.2.2.1 y_Mod_fillsPot.2.2.2.1 ∈ gtb ∧ Cond.initialized y_Mod_fillsPot.1.cls ∈ gtb ∧ y_Mod_fillsPot.1.cls ≠ "java/lang/invoke/MethodHandle" ∧ y_Mod_fillsPot.1.cls ≠ "java/lang/invoke/VarHandle" ∧ (parseMethodDescriptor y_Mod_fillsPot.1.desc).map (fun d => d.parameters.length) = some 1 := ⟨(gk_7 (List.mem_of_getElem? (i := 81) rfl) rfl), cz_Mod, cx_Mod.1, cx_Mod.2, by decide +kernel⟩
set_option maxRecDepth 100000 in
theorem mo_Mod_356 : mOk "CookedLawModel" 356 1 y_Mod_fillsPot := ⟨Or.inl (gk_7 (List.mem_of_getElem? (i := 78) rfl) rfl), mk_Mod_fillsPot⟩
set_option maxRecDepth 100000 in
theorem mk_Mod_forceBy : Cond.code y_Mod_forceBy.1 y_Mod_forceBy.2.1 y_Mod_forceBy.2.2.1 y_Mod_forceBy.2.2.2.1 ∈ gtb ∧ Cond.initialized y_Mod_forceBy.1.cls ∈ gtb ∧ y_Mod_forceBy.1.cls ≠ "java/lang/invoke/MethodHandle" ∧ y_Mod_forceBy.1.cls ≠ "java/lang/invoke/VarHandle" ∧ (parseMethodDescriptor y_Mod_forceBy.1.desc).map (fun d => d.parameters.length) = some 2 := ⟨(gk_7 (List.mem_of_getElem? (i := 93) rfl) rfl), cz_Mod, cx_Mod.1, cx_Mod.2, by decide +kernel⟩
set_option maxRecDepth 100000 in
theorem mo_Mod_359 : mOk "CookedLawModel" 359 2 y_Mod_forceBy := ⟨Or.inl (gk_7 (List.mem_of_getElem? (i := 90) rfl) rfl), mk_Mod_forceBy⟩
set_option maxRecDepth 100000 in
theorem mk_Mod_potPrice : Cond.code y_Mod_potPrice.1 y_Mod_potPrice.2.1 y_Mod_potPrice.2.2.1 y_Mod_potPrice.2.2.2.1 ∈ gtb ∧ Cond.initialized y_Mod_potPrice.1.cls ∈ gtb ∧ y_Mod_potPrice.1.cls ≠ "java/lang/invoke/MethodHandle" ∧ y_Mod_potPrice.1.cls ≠ "java/lang/invoke/VarHandle" ∧ (parseMethodDescriptor y_Mod_potPrice.1.desc).map (fun d => d.parameters.length) = some 0 := ⟨(gk_7 (List.mem_of_getElem? (i := 89) rfl) rfl), cz_Mod, cx_Mod.1, cx_Mod.2, by decide +kernel⟩
set_option maxRecDepth 100000 in
theorem mo_Mod_362 : mOk "CookedLawModel" 362 0 y_Mod_potPrice := ⟨Or.inl (gk_7 (List.mem_of_getElem? (i := 86) rfl) rfl), mk_Mod_potPrice⟩
set_option maxRecDepth 100000 in
theorem mk_Mod_lotOf : Cond.code y_Mod_lotOf.1 y_Mod_lotOf.2.1 y_Mod_lotOf.2.2.1 y_Mod_lotOf.2.2.2.1 ∈ gtb ∧ Cond.initialized y_Mod_lotOf.1.cls ∈ gtb ∧ y_Mod_lotOf.1.cls ≠ "java/lang/invoke/MethodHandle" ∧ y_Mod_lotOf.1.cls ≠ "java/lang/invoke/VarHandle" ∧ (parseMethodDescriptor y_Mod_lotOf.1.desc).map (fun d => d.parameters.length) = some 2 := ⟨(gk_7 (List.mem_of_getElem? (i := 160) rfl) rfl), cz_Mod, cx_Mod.1, cx_Mod.2, by decide +kernel⟩
set_option maxRecDepth 100000 in
theorem mo_Mod_365 : mOk "CookedLawModel" 365 2 y_Mod_lotOf := ⟨Or.inl (gk_7 (List.mem_of_getElem? (i := 157) rfl) rfl), mk_Mod_lotOf⟩
set_option maxRecDepth 100000 in
theorem mk_Mod_dayGoes : Cond.code y_Mod_dayGoes.1 y_Mod_dayGoes.2.1 y_Mod_dayGoes.2.2.1 y_Mod_dayGoes.2.2.2.1 ∈ gtb ∧ Cond.initialized y_Mod_dayGoes.1.cls ∈ gtb ∧ y_Mod_dayGoes.1.cls ≠ "java/lang/invoke/MethodHandle" ∧ y_Mod_dayGoes.1.cls ≠ "java/lang/invoke/VarHandle" ∧ (parseMethodDescriptor y_Mod_dayGoes.1.desc).map (fun d => d.parameters.length) = some 0 := ⟨(gk_7 (List.mem_of_getElem? (i := 188) rfl) rfl), cz_Mod, cx_Mod.1, cx_Mod.2, by decide +kernel⟩
set_option maxRecDepth 100000 in
theorem mo_Mod_368 : mOk "CookedLawModel" 368 0 y_Mod_dayGoes := ⟨Or.inl (gk_7 (List.mem_of_getElem? (i := 185) rfl) rfl), mk_Mod_dayGoes⟩
set_option maxRecDepth 100000 in
theorem mk_Mod_isFood : Cond.code y_Mod_isFood.1 y_Mod_isFood.2.1 y_Mod_isFood.2.2.1 y_Mod_isFood.2.2.2.1 ∈ gtb ∧ Cond.initialized y_Mod_isFood.1.cls ∈ gtb ∧ y_Mod_isFood.1.cls ≠ "java/lang/invoke/MethodHandle" ∧ y_Mod_isFood.1.cls ≠ "java/lang/invoke/VarHandle" ∧ (parseMethodDescriptor y_Mod_isFood.1.desc).map (fun d => d.parameters.length) = some 1 := ⟨(gk_7 (List.mem_of_getElem? (i := 62) rfl) rfl), cz_Mod, cx_Mod.1, cx_Mod.2, by decide +kernel⟩
set_option maxRecDepth 100000 in
theorem mo_Mod_371 : mOk "CookedLawModel" 371 1 y_Mod_isFood := ⟨Or.inl (gk_7 (List.mem_of_getElem? (i := 59) rfl) rfl), mk_Mod_isFood⟩
set_option maxRecDepth 100000 in
theorem mk_Mod_isDish : Cond.code y_Mod_isDish.1 y_Mod_isDish.2.1 y_Mod_isDish.2.2.1 y_Mod_isDish.2.2.2.1 ∈ gtb ∧ Cond.initialized y_Mod_isDish.1.cls ∈ gtb ∧ y_Mod_isDish.1.cls ≠ "java/lang/invoke/MethodHandle" ∧ y_Mod_isDish.1.cls ≠ "java/lang/invoke/VarHandle" ∧ (parseMethodDescriptor y_Mod_isDish.1.desc).map (fun d => d.parameters.length) = some 1 := ⟨(gk_7 (List.mem_of_getElem? (i := 73) rfl) rfl), cz_Mod, cx_Mod.1, cx_Mod.2, by decide +kernel⟩
set_option maxRecDepth 100000 in
theorem mo_Mod_374 : mOk "CookedLawModel" 374 1 y_Mod_isDish := ⟨Or.inl (gk_7 (List.mem_of_getElem? (i := 70) rfl) rfl), mk_Mod_isDish⟩
set_option maxRecDepth 100000 in
theorem mk_Mod_copies : Cond.code y_Mod_copies.1 y_Mod_copies.2.1 y_Mod_copies.2.2.1 y_Mod_copies.2.2.2.1 ∈ gtb ∧ Cond.initialized y_Mod_copies.1.cls ∈ gtb ∧ y_Mod_copies.1.cls ≠ "java/lang/invoke/MethodHandle" ∧ y_Mod_copies.1.cls ≠ "java/lang/invoke/VarHandle" ∧ (parseMethodDescriptor y_Mod_copies.1.desc).map (fun d => d.parameters.length) = some 0 := ⟨(gk_7 (List.mem_of_getElem? (i := 77) rfl) rfl), cz_Mod, cx_Mod.1, cx_Mod.2, by decide +kernel⟩
set_option maxRecDepth 100000 in
theorem mo_Mod_377 : mOk "CookedLawModel" 377 0 y_Mod_copies := ⟨Or.inl (gk_7 (List.mem_of_getElem? (i := 74) rfl) rfl), mk_Mod_copies⟩
set_option maxRecDepth 100000 in
theorem mk_Mod_isGuest : Cond.code y_Mod_isGuest.1 y_Mod_isGuest.2.1 y_Mod_isGuest.2.2.1 y_Mod_isGuest.2.2.2.1 ∈ gtb ∧ Cond.initialized y_Mod_isGuest.1.cls ∈ gtb ∧ y_Mod_isGuest.1.cls ≠ "java/lang/invoke/MethodHandle" ∧ y_Mod_isGuest.1.cls ≠ "java/lang/invoke/VarHandle" ∧ (parseMethodDescriptor y_Mod_isGuest.1.desc).map (fun d => d.parameters.length) = some 1 := ⟨(gk_7 (List.mem_of_getElem? (i := 124) rfl) rfl), cz_Mod, cx_Mod.1, cx_Mod.2, by decide +kernel⟩
set_option maxRecDepth 100000 in
theorem mo_Mod_380 : mOk "CookedLawModel" 380 1 y_Mod_isGuest := ⟨Or.inl (gk_7 (List.mem_of_getElem? (i := 121) rfl) rfl), mk_Mod_isGuest⟩
set_option maxRecDepth 100000 in
theorem mk_Mod_isDeed : Cond.code y_Mod_isDeed.1 y_Mod_isDeed.2.1 y_Mod_isDeed.2.2.1 y_Mod_isDeed.2.2.2.1 ∈ gtb ∧ Cond.initialized y_Mod_isDeed.1.cls ∈ gtb ∧ y_Mod_isDeed.1.cls ≠ "java/lang/invoke/MethodHandle" ∧ y_Mod_isDeed.1.cls ≠ "java/lang/invoke/VarHandle" ∧ (parseMethodDescriptor y_Mod_isDeed.1.desc).map (fun d => d.parameters.length) = some 1 := ⟨(gk_7 (List.mem_of_getElem? (i := 140) rfl) rfl), cz_Mod, cx_Mod.1, cx_Mod.2, by decide +kernel⟩
set_option maxRecDepth 100000 in
theorem mo_Mod_383 : mOk "CookedLawModel" 383 1 y_Mod_isDeed := ⟨Or.inl (gk_7 (List.mem_of_getElem? (i := 137) rfl) rfl), mk_Mod_isDeed⟩
set_option maxRecDepth 100000 in
theorem mk_Mod_isInStore : Cond.code y_Mod_isInStore.1 y_Mod_isInStore.2.1 y_Mod_isInStore.2.2.1 y_Mod_isInStore.2.2.2.1 ∈ gtb ∧ Cond.initialized y_Mod_isInStore.1.cls ∈ gtb ∧ y_Mod_isInStore.1.cls ≠ "java/lang/invoke/MethodHandle" ∧ y_Mod_isInStore.1.cls ≠ "java/lang/invoke/VarHandle" ∧ (parseMethodDescriptor y_Mod_isInStore.1.desc).map (fun d => d.parameters.length) = some 1 := ⟨(gk_7 (List.mem_of_getElem? (i := 152) rfl) rfl), cz_Mod, cx_Mod.1, cx_Mod.2, by decide +kernel⟩
set_option maxRecDepth 100000 in
theorem mo_Mod_386 : mOk "CookedLawModel" 386 1 y_Mod_isInStore := ⟨Or.inl (gk_7 (List.mem_of_getElem? (i := 149) rfl) rfl), mk_Mod_isInStore⟩
set_option maxRecDepth 100000 in
theorem mk_Mod_cooks : Cond.code y_Mod_cooks.1 y_Mod_cooks.2.1 y_Mod_cooks.2.2.1 y_Mod_cooks.2.2.2.1 ∈ gtb ∧ Cond.initialized y_Mod_cooks.1.cls ∈ gtb ∧ y_Mod_cooks.1.cls ≠ "java/lang/invoke/MethodHandle" ∧ y_Mod_cooks.1.cls ≠ "java/lang/invoke/VarHandle" ∧ (parseMethodDescriptor y_Mod_cooks.1.desc).map (fun d => d.parameters.length) = some 1 := ⟨(gk_7 (List.mem_of_getElem? (i := 156) rfl) rfl), cz_Mod, cx_Mod.1, cx_Mod.2, by decide +kernel⟩
set_option maxRecDepth 100000 in
theorem mo_Mod_389 : mOk "CookedLawModel" 389 1 y_Mod_cooks := ⟨Or.inl (gk_7 (List.mem_of_getElem? (i := 153) rfl) rfl), mk_Mod_cooks⟩
set_option maxRecDepth 100000 in
theorem mk_Mod_records : Cond.code y_Mod_records.1 y_Mod_records.2.1 y_Mod_records.2.2.1 y_Mod_records.2.2.2.1 ∈ gtb ∧ Cond.initialized y_Mod_records.1.cls ∈ gtb ∧ y_Mod_records.1.cls ≠ "java/lang/invoke/MethodHandle" ∧ y_Mod_records.1.cls ≠ "java/lang/invoke/VarHandle" ∧ (parseMethodDescriptor y_Mod_records.1.desc).map (fun d => d.parameters.length) = some 0 := ⟨(gk_7 (List.mem_of_getElem? (i := 168) rfl) rfl), cz_Mod, cx_Mod.1, cx_Mod.2, by decide +kernel⟩
set_option maxRecDepth 100000 in
theorem mo_Mod_392 : mOk "CookedLawModel" 392 0 y_Mod_records := ⟨Or.inl (gk_7 (List.mem_of_getElem? (i := 165) rfl) rfl), mk_Mod_records⟩
set_option maxRecDepth 100000 in
theorem mk_Mod_freeBits : Cond.code y_Mod_freeBits.1 y_Mod_freeBits.2.1 y_Mod_freeBits.2.2.1 y_Mod_freeBits.2.2.2.1 ∈ gtb ∧ Cond.initialized y_Mod_freeBits.1.cls ∈ gtb ∧ y_Mod_freeBits.1.cls ≠ "java/lang/invoke/MethodHandle" ∧ y_Mod_freeBits.1.cls ≠ "java/lang/invoke/VarHandle" ∧ (parseMethodDescriptor y_Mod_freeBits.1.desc).map (fun d => d.parameters.length) = some 1 := ⟨(gk_7 (List.mem_of_getElem? (i := 176) rfl) rfl), cz_Mod, cx_Mod.1, cx_Mod.2, by decide +kernel⟩
set_option maxRecDepth 100000 in
theorem mo_Mod_395 : mOk "CookedLawModel" 395 1 y_Mod_freeBits := ⟨Or.inl (gk_7 (List.mem_of_getElem? (i := 173) rfl) rfl), mk_Mod_freeBits⟩
set_option maxRecDepth 100000 in
theorem mk_Mod_goes : Cond.code y_Mod_goes.1 y_Mod_goes.2.1 y_Mod_goes.2.2.1 y_Mod_goes.2.2.2.1 ∈ gtb ∧ Cond.initialized y_Mod_goes.1.cls ∈ gtb ∧ y_Mod_goes.1.cls ≠ "java/lang/invoke/MethodHandle" ∧ y_Mod_goes.1.cls ≠ "java/lang/invoke/VarHandle" ∧ (parseMethodDescriptor y_Mod_goes.1.desc).map (fun d => d.parameters.length) = some 1 := ⟨(gk_7 (List.mem_of_getElem? (i := 184) rfl) rfl), cz_Mod, cx_Mod.1, cx_Mod.2, by decide +kernel⟩
set_option maxRecDepth 100000 in
theorem mo_Mod_398 : mOk "CookedLawModel" 398 1 y_Mod_goes := ⟨Or.inl (gk_7 (List.mem_of_getElem? (i := 181) rfl) rfl), mk_Mod_goes⟩
set_option maxRecDepth 100000 in
theorem mk_Mod_sevens : Cond.code y_Mod_sevens.1 y_Mod_sevens.2.1 y_Mod_sevens.2.2.1 y_Mod_sevens.2.2.2.1 ∈ gtb ∧ Cond.initialized y_Mod_sevens.1.cls ∈ gtb ∧ y_Mod_sevens.1.cls ≠ "java/lang/invoke/MethodHandle" ∧ y_Mod_sevens.1.cls ≠ "java/lang/invoke/VarHandle" ∧ (parseMethodDescriptor y_Mod_sevens.1.desc).map (fun d => d.parameters.length) = some 1 := ⟨(gk_7 (List.mem_of_getElem? (i := 199) rfl) rfl), cz_Mod, cx_Mod.1, cx_Mod.2, by decide +kernel⟩
set_option maxRecDepth 100000 in
theorem mo_Mod_401 : mOk "CookedLawModel" 401 1 y_Mod_sevens := ⟨Or.inl (gk_7 (List.mem_of_getElem? (i := 197) rfl) rfl), mk_Mod_sevens⟩
set_option maxRecDepth 100000 in
theorem mk_Mod_isPot : Cond.code y_Mod_isPot.1 y_Mod_isPot.2.1 y_Mod_isPot.2.2.1 y_Mod_isPot.2.2.2.1 ∈ gtb ∧ Cond.initialized y_Mod_isPot.1.cls ∈ gtb ∧ y_Mod_isPot.1.cls ≠ "java/lang/invoke/MethodHandle" ∧ y_Mod_isPot.1.cls ≠ "java/lang/invoke/VarHandle" ∧ (parseMethodDescriptor y_Mod_isPot.1.desc).map (fun d => d.parameters.length) = some 1 := ⟨(gk_7 (List.mem_of_getElem? (i := 203) rfl) rfl), cz_Mod, cx_Mod.1, cx_Mod.2, by decide +kernel⟩
set_option maxRecDepth 100000 in
theorem mo_Mod_416 : mOk "CookedLawModel" 416 1 y_Mod_isPot := ⟨Or.inl (gk_7 (List.mem_of_getElem? (i := 200) rfl) rfl), mk_Mod_isPot⟩
set_option maxRecDepth 100000 in
theorem mk_Mod_potAt : Cond.code y_Mod_potAt.1 y_Mod_potAt.2.1 y_Mod_potAt.2.2.1 y_Mod_potAt.2.2.2.1 ∈ gtb ∧ Cond.initialized y_Mod_potAt.1.cls ∈ gtb ∧ y_Mod_potAt.1.cls ≠ "java/lang/invoke/MethodHandle" ∧ y_Mod_potAt.1.cls ≠ "java/lang/invoke/VarHandle" ∧ (parseMethodDescriptor y_Mod_potAt.1.desc).map (fun d => d.parameters.length) = some 3 := ⟨(gk_7 (List.mem_of_getElem? (i := 207) rfl) rfl), cz_Mod, cx_Mod.1, cx_Mod.2, by decide +kernel⟩
set_option maxRecDepth 100000 in
theorem mo_Mod_419 : mOk "CookedLawModel" 419 3 y_Mod_potAt := ⟨Or.inl (gk_7 (List.mem_of_getElem? (i := 204) rfl) rfl), mk_Mod_potAt⟩
set_option maxRecDepth 100000 in
theorem mk_Mod_isBetter : Cond.code y_Mod_isBetter.1 y_Mod_isBetter.2.1 y_Mod_isBetter.2.2.1 y_Mod_isBetter.2.2.2.1 ∈ gtb ∧ Cond.initialized y_Mod_isBetter.1.cls ∈ gtb ∧ y_Mod_isBetter.1.cls ≠ "java/lang/invoke/MethodHandle" ∧ y_Mod_isBetter.1.cls ≠ "java/lang/invoke/VarHandle" ∧ (parseMethodDescriptor y_Mod_isBetter.1.desc).map (fun d => d.parameters.length) = some 1 := ⟨(gk_7 (List.mem_of_getElem? (i := 211) rfl) rfl), cz_Mod, cx_Mod.1, cx_Mod.2, by decide +kernel⟩
set_option maxRecDepth 100000 in
theorem mo_Mod_422 : mOk "CookedLawModel" 422 1 y_Mod_isBetter := ⟨Or.inl (gk_7 (List.mem_of_getElem? (i := 208) rfl) rfl), mk_Mod_isBetter⟩
set_option maxRecDepth 100000 in
theorem mk_Mod_off : Cond.code y_Mod_off.1 y_Mod_off.2.1 y_Mod_off.2.2.1 y_Mod_off.2.2.2.1 ∈ gtb ∧ Cond.initialized y_Mod_off.1.cls ∈ gtb ∧ y_Mod_off.1.cls ≠ "java/lang/invoke/MethodHandle" ∧ y_Mod_off.1.cls ≠ "java/lang/invoke/VarHandle" ∧ (parseMethodDescriptor y_Mod_off.1.desc).map (fun d => d.parameters.length) = some 2 := ⟨(gk_7 (List.mem_of_getElem? (i := 218) rfl) rfl), cz_Mod, cx_Mod.1, cx_Mod.2, by decide +kernel⟩
set_option maxRecDepth 100000 in
theorem mo_Mod_425 : mOk "CookedLawModel" 425 2 y_Mod_off := ⟨Or.inl (gk_7 (List.mem_of_getElem? (i := 216) rfl) rfl), mk_Mod_off⟩
set_option maxRecDepth 100000 in
theorem mk_Mod_eatsDish : Cond.code y_Mod_eatsDish.1 y_Mod_eatsDish.2.1 y_Mod_eatsDish.2.2.1 y_Mod_eatsDish.2.2.2.1 ∈ gtb ∧ Cond.initialized y_Mod_eatsDish.1.cls ∈ gtb ∧ y_Mod_eatsDish.1.cls ≠ "java/lang/invoke/MethodHandle" ∧ y_Mod_eatsDish.1.cls ≠ "java/lang/invoke/VarHandle" ∧ (parseMethodDescriptor y_Mod_eatsDish.1.desc).map (fun d => d.parameters.length) = some 2 := ⟨(gk_7 (List.mem_of_getElem? (i := 230) rfl) rfl), cz_Mod, cx_Mod.1, cx_Mod.2, by decide +kernel⟩
set_option maxRecDepth 100000 in
theorem mo_Mod_431 : mOk "CookedLawModel" 431 2 y_Mod_eatsDish := ⟨Or.inl (gk_7 (List.mem_of_getElem? (i := 227) rfl) rfl), mk_Mod_eatsDish⟩
set_option maxRecDepth 100000 in
theorem mk_Mod_bits : Cond.code y_Mod_bits.1 y_Mod_bits.2.1 y_Mod_bits.2.2.1 y_Mod_bits.2.2.2.1 ∈ gtb ∧ Cond.initialized y_Mod_bits.1.cls ∈ gtb ∧ y_Mod_bits.1.cls ≠ "java/lang/invoke/MethodHandle" ∧ y_Mod_bits.1.cls ≠ "java/lang/invoke/VarHandle" ∧ (parseMethodDescriptor y_Mod_bits.1.desc).map (fun d => d.parameters.length) = some 1 := ⟨(gk_7 (List.mem_of_getElem? (i := 233) rfl) rfl), cz_Mod, cx_Mod.1, cx_Mod.2, by decide +kernel⟩
set_option maxRecDepth 100000 in
theorem mo_Mod_434 : mOk "CookedLawModel" 434 1 y_Mod_bits := ⟨Or.inl (gk_7 (List.mem_of_getElem? (i := 231) rfl) rfl), mk_Mod_bits⟩
set_option maxRecDepth 100000 in
theorem mk_Mod_freestOf : Cond.code y_Mod_freestOf.1 y_Mod_freestOf.2.1 y_Mod_freestOf.2.2.1 y_Mod_freestOf.2.2.2.1 ∈ gtb ∧ Cond.initialized y_Mod_freestOf.1.cls ∈ gtb ∧ y_Mod_freestOf.1.cls ≠ "java/lang/invoke/MethodHandle" ∧ y_Mod_freestOf.1.cls ≠ "java/lang/invoke/VarHandle" ∧ (parseMethodDescriptor y_Mod_freestOf.1.desc).map (fun d => d.parameters.length) = some 1 := ⟨(gk_7 (List.mem_of_getElem? (i := 226) rfl) rfl), cz_Mod, cx_Mod.1, cx_Mod.2, by decide +kernel⟩
set_option maxRecDepth 100000 in
theorem mo_Mod_437 : mOk "CookedLawModel" 437 1 y_Mod_freestOf := ⟨Or.inl (gk_7 (List.mem_of_getElem? (i := 223) rfl) rfl), mk_Mod_freestOf⟩
set_option maxRecDepth 100000 in
theorem mk_Mod_sixes : Cond.code y_Mod_sixes.1 y_Mod_sixes.2.1 y_Mod_sixes.2.2.1 y_Mod_sixes.2.2.2.1 ∈ gtb ∧ Cond.initialized y_Mod_sixes.1.cls ∈ gtb ∧ y_Mod_sixes.1.cls ≠ "java/lang/invoke/MethodHandle" ∧ y_Mod_sixes.1.cls ≠ "java/lang/invoke/VarHandle" ∧ (parseMethodDescriptor y_Mod_sixes.1.desc).map (fun d => d.parameters.length) = some 1 := ⟨(gk_8 (List.mem_of_getElem? (i := 8) rfl) rfl), cz_Mod, cx_Mod.1, cx_Mod.2, by decide +kernel⟩
set_option maxRecDepth 100000 in
theorem mo_Mod_440 : mOk "CookedLawModel" 440 1 y_Mod_sixes := ⟨Or.inl (gk_8 (List.mem_of_getElem? (i := 6) rfl) rfl), mk_Mod_sixes⟩
set_option maxRecDepth 100000 in
theorem mk_Mod_mealsBy : Cond.code y_Mod_mealsBy.1 y_Mod_mealsBy.2.1 y_Mod_mealsBy.2.2.1 y_Mod_mealsBy.2.2.2.1 ∈ gtb ∧ Cond.initialized y_Mod_mealsBy.1.cls ∈ gtb ∧ y_Mod_mealsBy.1.cls ≠ "java/lang/invoke/MethodHandle" ∧ y_Mod_mealsBy.1.cls ≠ "java/lang/invoke/VarHandle" ∧ (parseMethodDescriptor y_Mod_mealsBy.1.desc).map (fun d => d.parameters.length) = some 4 := ⟨(gk_8 (List.mem_of_getElem? (i := 12) rfl) rfl), cz_Mod, cx_Mod.1, cx_Mod.2, by decide +kernel⟩
set_option maxRecDepth 100000 in
theorem mo_Mod_443 : mOk "CookedLawModel" 443 4 y_Mod_mealsBy := ⟨Or.inl (gk_8 (List.mem_of_getElem? (i := 9) rfl) rfl), mk_Mod_mealsBy⟩
set_option maxRecDepth 100000 in
theorem mk_Mod_isLong : Cond.code y_Mod_isLong.1 y_Mod_isLong.2.1 y_Mod_isLong.2.2.1 y_Mod_isLong.2.2.2.1 ∈ gtb ∧ Cond.initialized y_Mod_isLong.1.cls ∈ gtb ∧ y_Mod_isLong.1.cls ≠ "java/lang/invoke/MethodHandle" ∧ y_Mod_isLong.1.cls ≠ "java/lang/invoke/VarHandle" ∧ (parseMethodDescriptor y_Mod_isLong.1.desc).map (fun d => d.parameters.length) = some 1 := ⟨(gk_8 (List.mem_of_getElem? (i := 27) rfl) rfl), cz_Mod, cx_Mod.1, cx_Mod.2, by decide +kernel⟩
set_option maxRecDepth 100000 in
theorem mo_Mod_446 : mOk "CookedLawModel" 446 1 y_Mod_isLong := ⟨Or.inl (gk_8 (List.mem_of_getElem? (i := 25) rfl) rfl), mk_Mod_isLong⟩
set_option maxRecDepth 100000 in
theorem mk_Mod_fillsWay : Cond.code y_Mod_fillsWay.1 y_Mod_fillsWay.2.1 y_Mod_fillsWay.2.2.1 y_Mod_fillsWay.2.2.2.1 ∈ gtb ∧ Cond.initialized y_Mod_fillsWay.1.cls ∈ gtb ∧ y_Mod_fillsWay.1.cls ≠ "java/lang/invoke/MethodHandle" ∧ y_Mod_fillsWay.1.cls ≠ "java/lang/invoke/VarHandle" ∧ (parseMethodDescriptor y_Mod_fillsWay.1.desc).map (fun d => d.parameters.length) = some 1 := ⟨(gk_8 (List.mem_of_getElem? (i := 55) rfl) rfl), cz_Mod, cx_Mod.1, cx_Mod.2, by decide +kernel⟩
set_option maxRecDepth 100000 in
theorem mo_Mod_449 : mOk "CookedLawModel" 449 1 y_Mod_fillsWay := ⟨Or.inl (gk_8 (List.mem_of_getElem? (i := 52) rfl) rfl), mk_Mod_fillsWay⟩
set_option maxRecDepth 100000 in
theorem mk_Mod_isAsKnown : Cond.code y_Mod_isAsKnown.1 y_Mod_isAsKnown.2.1 y_Mod_isAsKnown.2.2.1 y_Mod_isAsKnown.2.2.2.1 ∈ gtb ∧ Cond.initialized y_Mod_isAsKnown.1.cls ∈ gtb ∧ y_Mod_isAsKnown.1.cls ≠ "java/lang/invoke/MethodHandle" ∧ y_Mod_isAsKnown.1.cls ≠ "java/lang/invoke/VarHandle" ∧ (parseMethodDescriptor y_Mod_isAsKnown.1.desc).map (fun d => d.parameters.length) = some 1 := ⟨(gk_8 (List.mem_of_getElem? (i := 59) rfl) rfl), cz_Mod, cx_Mod.1, cx_Mod.2, by decide +kernel⟩
set_option maxRecDepth 100000 in
theorem mo_Mod_452 : mOk "CookedLawModel" 452 1 y_Mod_isAsKnown := ⟨Or.inl (gk_8 (List.mem_of_getElem? (i := 56) rfl) rfl), mk_Mod_isAsKnown⟩
set_option maxRecDepth 100000 in
theorem mk_Mod_isWay : Cond.code y_Mod_isWay.1 y_Mod_isWay.2.1 y_Mod_isWay.2.2.1 y_Mod_isWay.2.2.2.1 ∈ gtb ∧ Cond.initialized y_Mod_isWay.1.cls ∈ gtb ∧ y_Mod_isWay.1.cls ≠ "java/lang/invoke/MethodHandle" ∧ y_Mod_isWay.1.cls ≠ "java/lang/invoke/VarHandle" ∧ (parseMethodDescriptor y_Mod_isWay.1.desc).map (fun d => d.parameters.length) = some 2 := ⟨(gk_8 (List.mem_of_getElem? (i := 51) rfl) rfl), cz_Mod, cx_Mod.1, cx_Mod.2, by decide +kernel⟩
set_option maxRecDepth 100000 in
theorem mo_Mod_455 : mOk "CookedLawModel" 455 2 y_Mod_isWay := ⟨Or.inl (gk_8 (List.mem_of_getElem? (i := 48) rfl) rfl), mk_Mod_isWay⟩
set_option maxRecDepth 100000 in
theorem ms_Main_at : Cond.static y_Main_at.1 ∈ gtb := (gk_3 (List.mem_of_getElem? (i := 100) rfl) rfl)
set_option maxRecDepth 100000 in
theorem mi_Main_beginDraft : Cond.instanceMethod y_Main_beginDraft.1 ∈ gtb := (gk_3 (List.mem_of_getElem? (i := 219) rfl) rfl)
set_option maxRecDepth 100000 in
theorem mv_Main_beginDraft : Cond.selects y_Main_beginDraft.1.cls y_Main_beginDraft.1 y_Main_beginDraft.1 ∈ gtb := gtb_of (List.mem_append_left _ (List.mem_of_getElem? (i := 26) rfl)) rfl
set_option maxRecDepth 100000 in
theorem mi_Main_changeBy : Cond.instanceMethod y_Main_changeBy.1 ∈ gtb := (gk_4 (List.mem_of_getElem? (i := 229) rfl) rfl)
set_option maxRecDepth 100000 in
theorem mv_Main_changeBy : Cond.selects y_Main_changeBy.1.cls y_Main_changeBy.1 y_Main_changeBy.1 ∈ gtb := gtb_of (List.mem_append_left _ (List.mem_of_getElem? (i := 33) rfl)) rfl
set_option maxRecDepth 100000 in
theorem ms_Main_copyRow : Cond.static y_Main_copyRow.1 ∈ gtb := (gk_4 (List.mem_of_getElem? (i := 131) rfl) rfl)
set_option maxRecDepth 100000 in
theorem mi_Main_freeBehind : Cond.instanceMethod y_Main_freeBehind.1 ∈ gtb := (gk_5 (List.mem_of_getElem? (i := 4) rfl) rfl)
set_option maxRecDepth 100000 in
theorem mv_Main_freeBehind : Cond.selects y_Main_freeBehind.1.cls y_Main_freeBehind.1 y_Main_freeBehind.1 ∈ gtb := gtb_of (List.mem_append_left _ (List.mem_of_getElem? (i := 35) rfl)) rfl
set_option maxRecDepth 100000 in
theorem mi_Main_freestDish : Cond.instanceMethod y_Main_freestDish.1 ∈ gtb := (gk_5 (List.mem_of_getElem? (i := 0) rfl) rfl)
set_option maxRecDepth 100000 in
theorem mv_Main_freestDish : Cond.selects y_Main_freestDish.1.cls y_Main_freestDish.1 y_Main_freestDish.1 ∈ gtb := gtb_of (List.mem_append_left _ (List.mem_of_getElem? (i := 34) rfl)) rfl
set_option maxRecDepth 100000 in
theorem mi_Main_guestsFreeTo : Cond.instanceMethod y_Main_guestsFreeTo.1 ∈ gtb := (gk_4 (List.mem_of_getElem? (i := 99) rfl) rfl)
set_option maxRecDepth 100000 in
theorem mv_Main_guestsFreeTo : Cond.selects y_Main_guestsFreeTo.1.cls y_Main_guestsFreeTo.1 y_Main_guestsFreeTo.1 ∈ gtb := gtb_of (List.mem_append_left _ (List.mem_of_getElem? (i := 27) rfl)) rfl
set_option maxRecDepth 100000 in
theorem ms_Main_hasBit : Cond.static y_Main_hasBit.1 ∈ gtb := (gk_4 (List.mem_of_getElem? (i := 111) rfl) rfl)
set_option maxRecDepth 100000 in
theorem ms_Main_isOne : Cond.static y_Main_isOne.1 ∈ gtb := (gk_3 (List.mem_of_getElem? (i := 182) rfl) rfl)
set_option maxRecDepth 100000 in
theorem ms_Main_put : Cond.static y_Main_put.1 ∈ gtb := (gk_3 (List.mem_of_getElem? (i := 31) rfl) rfl)
set_option maxRecDepth 100000 in
theorem ms_Main_wipe : Cond.static y_Main_wipe.1 ∈ gtb := (gk_3 (List.mem_of_getElem? (i := 89) rfl) rfl)
set_option maxRecDepth 100000 in
theorem ms_Main_within : Cond.static y_Main_within.1 ∈ gtb := (gk_4 (List.mem_of_getElem? (i := 46) rfl) rfl)
set_option maxRecDepth 100000 in
theorem mi_Land_init : Cond.instanceMethod y_Land_init.1 ∈ gtb := (gk_1 (List.mem_of_getElem? (i := 166) rfl) rfl)
set_option maxRecDepth 100000 in
theorem mi_Land_boundBy : Cond.instanceMethod y_Land_boundBy.1 ∈ gtb := (gk_4 (List.mem_of_getElem? (i := 90) rfl) rfl)
set_option maxRecDepth 100000 in
theorem mv_Land_boundBy : Cond.selects y_Land_boundBy.1.cls y_Land_boundBy.1 y_Land_boundBy.1 ∈ gtb := (gk_4 (List.mem_of_getElem? (i := 91) rfl) rfl)
set_option maxRecDepth 100000 in
theorem mi_Land_broughtBy : Cond.instanceMethod y_Land_broughtBy.1 ∈ gtb := (gk_4 (List.mem_of_getElem? (i := 11) rfl) rfl)
set_option maxRecDepth 100000 in
theorem mv_Land_broughtBy : Cond.selects y_Land_broughtBy.1.cls y_Land_broughtBy.1 y_Land_broughtBy.1 ∈ gtb := (gk_4 (List.mem_of_getElem? (i := 12) rfl) rfl)
set_option maxRecDepth 100000 in
theorem mi_Land_clear : Cond.instanceMethod y_Land_clear.1 ∈ gtb := (gk_3 (List.mem_of_getElem? (i := 85) rfl) rfl)
set_option maxRecDepth 100000 in
theorem mv_Land_clear : Cond.selects y_Land_clear.1.cls y_Land_clear.1 y_Land_clear.1 ∈ gtb := (gk_3 (List.mem_of_getElem? (i := 86) rfl) rfl)
set_option maxRecDepth 100000 in
theorem mi_Land_dishForce : Cond.instanceMethod y_Land_dishForce.1 ∈ gtb := (gk_4 (List.mem_of_getElem? (i := 28) rfl) rfl)
set_option maxRecDepth 100000 in
theorem mv_Land_dishForce : Cond.selects y_Land_dishForce.1.cls y_Land_dishForce.1 y_Land_dishForce.1 ∈ gtb := (gk_4 (List.mem_of_getElem? (i := 29) rfl) rfl)
set_option maxRecDepth 100000 in
theorem mi_Land_fillOf : Cond.instanceMethod y_Land_fillOf.1 ∈ gtb := (gk_4 (List.mem_of_getElem? (i := 172) rfl) rfl)
set_option maxRecDepth 100000 in
theorem mv_Land_fillOf : Cond.selects y_Land_fillOf.1.cls y_Land_fillOf.1 y_Land_fillOf.1 ∈ gtb := (gk_4 (List.mem_of_getElem? (i := 173) rfl) rfl)
set_option maxRecDepth 100000 in
theorem mi_Land_freeByDish : Cond.instanceMethod y_Land_freeByDish.1 ∈ gtb := (gk_5 (List.mem_of_getElem? (i := 7) rfl) rfl)
set_option maxRecDepth 100000 in
theorem mv_Land_freeByDish : Cond.selects y_Land_freeByDish.1.cls y_Land_freeByDish.1 y_Land_freeByDish.1 ∈ gtb := (gk_5 (List.mem_of_getElem? (i := 8) rfl) rfl)
set_option maxRecDepth 100000 in
theorem mi_Land_freeUnder : Cond.instanceMethod y_Land_freeUnder.1 ∈ gtb := (gk_4 (List.mem_of_getElem? (i := 107) rfl) rfl)
set_option maxRecDepth 100000 in
theorem mv_Land_freeUnder : Cond.selects y_Land_freeUnder.1.cls y_Land_freeUnder.1 y_Land_freeUnder.1 ∈ gtb := (gk_4 (List.mem_of_getElem? (i := 108) rfl) rfl)
set_option maxRecDepth 100000 in
theorem mi_Land_inDish : Cond.instanceMethod y_Land_inDish.1 ∈ gtb := (gk_3 (List.mem_of_getElem? (i := 148) rfl) rfl)
set_option maxRecDepth 100000 in
theorem mv_Land_inDish : Cond.selects y_Land_inDish.1.cls y_Land_inDish.1 y_Land_inDish.1 ∈ gtb := (gk_3 (List.mem_of_getElem? (i := 149) rfl) rfl)
set_option maxRecDepth 100000 in
theorem ms_Land_lot : Cond.static y_Land_lot.1 ∈ gtb := (gk_4 (List.mem_of_getElem? (i := 143) rfl) rfl)
set_option maxRecDepth 100000 in
theorem mi_Land_manyIn : Cond.instanceMethod y_Land_manyIn.1 ∈ gtb := (gk_4 (List.mem_of_getElem? (i := 19) rfl) rfl)
set_option maxRecDepth 100000 in
theorem mv_Land_manyIn : Cond.selects y_Land_manyIn.1.cls y_Land_manyIn.1 y_Land_manyIn.1 ∈ gtb := (gk_4 (List.mem_of_getElem? (i := 20) rfl) rfl)
set_option maxRecDepth 100000 in
theorem mi_Land_potForce : Cond.instanceMethod y_Land_potForce.1 ∈ gtb := (gk_4 (List.mem_of_getElem? (i := 38) rfl) rfl)
set_option maxRecDepth 100000 in
theorem mv_Land_potForce : Cond.selects y_Land_potForce.1.cls y_Land_potForce.1 y_Land_potForce.1 ∈ gtb := (gk_4 (List.mem_of_getElem? (i := 39) rfl) rfl)
set_option maxRecDepth 100000 in
theorem mi_Land_priceOf : Cond.instanceMethod y_Land_priceOf.1 ∈ gtb := (gk_4 (List.mem_of_getElem? (i := 24) rfl) rfl)
set_option maxRecDepth 100000 in
theorem mv_Land_priceOf : Cond.selects y_Land_priceOf.1.cls y_Land_priceOf.1 y_Land_priceOf.1 ∈ gtb := (gk_4 (List.mem_of_getElem? (i := 25) rfl) rfl)
set_option maxRecDepth 100000 in
theorem mi_Land_slipsOf : Cond.instanceMethod y_Land_slipsOf.1 ∈ gtb := (gk_4 (List.mem_of_getElem? (i := 150) rfl) rfl)
set_option maxRecDepth 100000 in
theorem mv_Land_slipsOf : Cond.selects y_Land_slipsOf.1.cls y_Land_slipsOf.1 y_Land_slipsOf.1 ∈ gtb := (gk_4 (List.mem_of_getElem? (i := 151) rfl) rfl)
set_option maxRecDepth 100000 in
theorem ms_Land_stirred : Cond.static y_Land_stirred.1 ∈ gtb := (gk_4 (List.mem_of_getElem? (i := 146) rfl) rfl)
set_option maxRecDepth 100000 in
theorem mi_Land_sumOf : Cond.instanceMethod y_Land_sumOf.1 ∈ gtb := (gk_4 (List.mem_of_getElem? (i := 32) rfl) rfl)
set_option maxRecDepth 100000 in
theorem mv_Land_sumOf : Cond.selects y_Land_sumOf.1.cls y_Land_sumOf.1 y_Land_sumOf.1 ∈ gtb := (gk_4 (List.mem_of_getElem? (i := 33) rfl) rfl)
set_option maxRecDepth 100000 in
theorem mi_Law_init : Cond.instanceMethod y_Law_init.1 ∈ gtb := (gk_1 (List.mem_of_getElem? (i := 172) rfl) rfl)
set_option maxRecDepth 100000 in
theorem mi_Law_add : Cond.instanceMethod y_Law_add.1 ∈ gtb := (gk_3 (List.mem_of_getElem? (i := 178) rfl) rfl)
set_option maxRecDepth 100000 in
theorem mv_Law_add : Cond.selects y_Law_add.1.cls y_Law_add.1 y_Law_add.1 ∈ gtb := (gk_3 (List.mem_of_getElem? (i := 179) rfl) rfl)
set_option maxRecDepth 100000 in
theorem mi_Law_clear : Cond.instanceMethod y_Law_clear.1 ∈ gtb := (gk_3 (List.mem_of_getElem? (i := 92) rfl) rfl)
set_option maxRecDepth 100000 in
theorem mv_Law_clear : Cond.selects y_Law_clear.1.cls y_Law_clear.1 y_Law_clear.1 ∈ gtb := (gk_3 (List.mem_of_getElem? (i := 93) rfl) rfl)
set_option maxRecDepth 100000 in
theorem mi_Law_closeIf : Cond.instanceMethod y_Law_closeIf.1 ∈ gtb := (gk_3 (List.mem_of_getElem? (i := 205) rfl) rfl)
set_option maxRecDepth 100000 in
theorem mv_Law_closeIf : Cond.selects y_Law_closeIf.1.cls y_Law_closeIf.1 y_Law_closeIf.1 ∈ gtb := (gk_3 (List.mem_of_getElem? (i := 206) rfl) rfl)
set_option maxRecDepth 100000 in
theorem mi_Law_isTold : Cond.instanceMethod y_Law_isTold.1 ∈ gtb := (gk_4 (List.mem_of_getElem? (i := 42) rfl) rfl)
set_option maxRecDepth 100000 in
theorem mv_Law_isTold : Cond.selects y_Law_isTold.1.cls y_Law_isTold.1 y_Law_isTold.1 ∈ gtb := (gk_4 (List.mem_of_getElem? (i := 43) rfl) rfl)
set_option maxRecDepth 100000 in
theorem mi_Law_let : Cond.instanceMethod y_Law_let.1 ∈ gtb := (gk_4 (List.mem_of_getElem? (i := 55) rfl) rfl)
set_option maxRecDepth 100000 in
theorem mv_Law_let : Cond.selects y_Law_let.1.cls y_Law_let.1 y_Law_let.1 ∈ gtb := (gk_4 (List.mem_of_getElem? (i := 56) rfl) rfl)
set_option maxRecDepth 100000 in
theorem mi_Law_looksAt : Cond.instanceMethod y_Law_looksAt.1 ∈ gtb := (gk_4 (List.mem_of_getElem? (i := 194) rfl) rfl)
set_option maxRecDepth 100000 in
theorem mv_Law_looksAt : Cond.selects y_Law_looksAt.1.cls y_Law_looksAt.1 y_Law_looksAt.1 ∈ gtb := (gk_4 (List.mem_of_getElem? (i := 195) rfl) rfl)
set_option maxRecDepth 100000 in
theorem mi_Law_openIf : Cond.instanceMethod y_Law_openIf.1 ∈ gtb := (gk_3 (List.mem_of_getElem? (i := 200) rfl) rfl)
set_option maxRecDepth 100000 in
theorem mv_Law_openIf : Cond.selects y_Law_openIf.1.cls y_Law_openIf.1 y_Law_openIf.1 ∈ gtb := (gk_3 (List.mem_of_getElem? (i := 201) rfl) rfl)
set_option maxRecDepth 100000 in
theorem ms_Law_reckon : Cond.static y_Law_reckon.1 ∈ gtb := (gk_4 (List.mem_of_getElem? (i := 64) rfl) rfl)
set_option maxRecDepth 100000 in
theorem mi_Law_value : Cond.instanceMethod y_Law_value.1 ∈ gtb := (gk_4 (List.mem_of_getElem? (i := 59) rfl) rfl)
set_option maxRecDepth 100000 in
theorem mv_Law_value : Cond.selects y_Law_value.1.cls y_Law_value.1 y_Law_value.1 ∈ gtb := (gk_4 (List.mem_of_getElem? (i := 60) rfl) rfl)
set_option maxRecDepth 100000 in
theorem mi_MenuSearch_init : Cond.instanceMethod y_MenuSearch_init.1 ∈ gtb := (gk_2 (List.mem_of_getElem? (i := 203) rfl) rfl)
set_option maxRecDepth 100000 in
theorem mi_MenuSearch_find : Cond.instanceMethod y_MenuSearch_find.1 ∈ gtb := (gk_5 (List.mem_of_getElem? (i := 33) rfl) rfl)
set_option maxRecDepth 100000 in
theorem mv_MenuSearch_find : Cond.selects y_MenuSearch_find.1.cls y_MenuSearch_find.1 y_MenuSearch_find.1 ∈ gtb := (gk_5 (List.mem_of_getElem? (i := 34) rfl) rfl)
set_option maxRecDepth 100000 in
theorem ms_MenuSearch_indexOf : Cond.static y_MenuSearch_indexOf.1 ∈ gtb := (gk_5 (List.mem_of_getElem? (i := 47) rfl) rfl)
set_option maxRecDepth 100000 in
theorem mi_MenuSearch_isFree : Cond.instanceMethod y_MenuSearch_isFree.1 ∈ gtb := (gk_5 (List.mem_of_getElem? (i := 57) rfl) rfl)
set_option maxRecDepth 100000 in
theorem mv_MenuSearch_isFree : Cond.selects y_MenuSearch_isFree.1.cls y_MenuSearch_isFree.1 y_MenuSearch_isFree.1 ∈ gtb := gtb_of (List.mem_append_left _ (List.mem_of_getElem? (i := 39) rfl)) rfl
set_option maxRecDepth 100000 in
theorem mi_MenuSearch_lookFed : Cond.instanceMethod y_MenuSearch_lookFed.1 ∈ gtb := (gk_5 (List.mem_of_getElem? (i := 43) rfl) rfl)
set_option maxRecDepth 100000 in
theorem mv_MenuSearch_lookFed : Cond.selects y_MenuSearch_lookFed.1.cls y_MenuSearch_lookFed.1 y_MenuSearch_lookFed.1 ∈ gtb := gtb_of (List.mem_append_left _ (List.mem_of_getElem? (i := 37) rfl)) rfl
set_option maxRecDepth 100000 in
theorem mi_MenuSearch_lookUnfed : Cond.instanceMethod y_MenuSearch_lookUnfed.1 ∈ gtb := (gk_5 (List.mem_of_getElem? (i := 38) rfl) rfl)
set_option maxRecDepth 100000 in
theorem mv_MenuSearch_lookUnfed : Cond.selects y_MenuSearch_lookUnfed.1.cls y_MenuSearch_lookUnfed.1 y_MenuSearch_lookUnfed.1 ∈ gtb := gtb_of (List.mem_append_left _ (List.mem_of_getElem? (i := 36) rfl)) rfl
set_option maxRecDepth 100000 in
theorem mi_MenuSearch_mealsIfAllFree : Cond.instanceMethod y_MenuSearch_mealsIfAllFree.1 ∈ gtb := (gk_5 (List.mem_of_getElem? (i := 52) rfl) rfl)
set_option maxRecDepth 100000 in
theorem mv_MenuSearch_mealsIfAllFree : Cond.selects y_MenuSearch_mealsIfAllFree.1.cls y_MenuSearch_mealsIfAllFree.1 y_MenuSearch_mealsIfAllFree.1 ∈ gtb := gtb_of (List.mem_append_left _ (List.mem_of_getElem? (i := 38) rfl)) rfl
set_option maxRecDepth 100000 in
theorem mi_MenuSearch_step : Cond.instanceMethod y_MenuSearch_step.1 ∈ gtb := (gk_5 (List.mem_of_getElem? (i := 62) rfl) rfl)
set_option maxRecDepth 100000 in
theorem mv_MenuSearch_step : Cond.selects y_MenuSearch_step.1.cls y_MenuSearch_step.1 y_MenuSearch_step.1 ∈ gtb := gtb_of (List.mem_append_left _ (List.mem_of_getElem? (i := 40) rfl)) rfl
set_option maxRecDepth 100000 in
theorem mi_Past_init : Cond.instanceMethod y_Past_init.1 ∈ gtb := (gk_2 (List.mem_of_getElem? (i := 89) rfl) rfl)
set_option maxRecDepth 100000 in
theorem mi_Past_clear : Cond.instanceMethod y_Past_clear.1 ∈ gtb := (gk_3 (List.mem_of_getElem? (i := 229) rfl) rfl)
set_option maxRecDepth 100000 in
theorem mv_Past_clear : Cond.selects y_Past_clear.1.cls y_Past_clear.1 y_Past_clear.1 ∈ gtb := (gk_3 (List.mem_of_getElem? (i := 230) rfl) rfl)
set_option maxRecDepth 100000 in
theorem mi_Past_keep : Cond.instanceMethod y_Past_keep.1 ∈ gtb := (gk_4 (List.mem_of_getElem? (i := 123) rfl) rfl)
set_option maxRecDepth 100000 in
theorem mv_Past_keep : Cond.selects y_Past_keep.1.cls y_Past_keep.1 y_Past_keep.1 ∈ gtb := (gk_4 (List.mem_of_getElem? (i := 124) rfl) rfl)
set_option maxRecDepth 100000 in
theorem mi_Past_takeBack : Cond.instanceMethod y_Past_takeBack.1 ∈ gtb := (gk_4 (List.mem_of_getElem? (i := 181) rfl) rfl)
set_option maxRecDepth 100000 in
theorem mv_Past_takeBack : Cond.selects y_Past_takeBack.1.cls y_Past_takeBack.1 y_Past_takeBack.1 ∈ gtb := (gk_4 (List.mem_of_getElem? (i := 182) rfl) rfl)
set_option maxRecDepth 100000 in
theorem mi_PotSearch_init : Cond.instanceMethod y_PotSearch_init.1 ∈ gtb := (gk_2 (List.mem_of_getElem? (i := 160) rfl) rfl)
set_option maxRecDepth 100000 in
theorem mi_PotSearch_fillFrom : Cond.instanceMethod y_PotSearch_fillFrom.1 ∈ gtb := (gk_4 (List.mem_of_getElem? (i := 199) rfl) rfl)
set_option maxRecDepth 100000 in
theorem mv_PotSearch_fillFrom : Cond.selects y_PotSearch_fillFrom.1.cls y_PotSearch_fillFrom.1 y_PotSearch_fillFrom.1 ∈ gtb := gtb_of (List.mem_append_left _ (List.mem_of_getElem? (i := 28) rfl)) rfl
set_option maxRecDepth 100000 in
theorem mi_PotSearch_find : Cond.instanceMethod y_PotSearch_find.1 ∈ gtb := (gk_4 (List.mem_of_getElem? (i := 189) rfl) rfl)
set_option maxRecDepth 100000 in
theorem mv_PotSearch_find : Cond.selects y_PotSearch_find.1.cls y_PotSearch_find.1 y_PotSearch_find.1 ∈ gtb := (gk_4 (List.mem_of_getElem? (i := 190) rfl) rfl)
set_option maxRecDepth 100000 in
theorem mi_PotSearch_isEnough : Cond.instanceMethod y_PotSearch_isEnough.1 ∈ gtb := (gk_4 (List.mem_of_getElem? (i := 215) rfl) rfl)
set_option maxRecDepth 100000 in
theorem mv_PotSearch_isEnough : Cond.selects y_PotSearch_isEnough.1.cls y_PotSearch_isEnough.1 y_PotSearch_isEnough.1 ∈ gtb := gtb_of (List.mem_append_left _ (List.mem_of_getElem? (i := 31) rfl)) rfl
set_option maxRecDepth 100000 in
theorem mi_PotSearch_stepDown : Cond.instanceMethod y_PotSearch_stepDown.1 ∈ gtb := (gk_4 (List.mem_of_getElem? (i := 221) rfl) rfl)
set_option maxRecDepth 100000 in
theorem mv_PotSearch_stepDown : Cond.selects y_PotSearch_stepDown.1.cls y_PotSearch_stepDown.1 y_PotSearch_stepDown.1 ∈ gtb := gtb_of (List.mem_append_left _ (List.mem_of_getElem? (i := 32) rfl)) rfl
set_option maxRecDepth 100000 in
theorem mi_PotSearch_tryHeats : Cond.instanceMethod y_PotSearch_tryHeats.1 ∈ gtb := (gk_4 (List.mem_of_getElem? (i := 211) rfl) rfl)
set_option maxRecDepth 100000 in
theorem mv_PotSearch_tryHeats : Cond.selects y_PotSearch_tryHeats.1.cls y_PotSearch_tryHeats.1 y_PotSearch_tryHeats.1 ∈ gtb := gtb_of (List.mem_append_left _ (List.mem_of_getElem? (i := 30) rfl)) rfl
set_option maxRecDepth 100000 in
theorem mi_PotSearch_weigh : Cond.instanceMethod y_PotSearch_weigh.1 ∈ gtb := (gk_4 (List.mem_of_getElem? (i := 205) rfl) rfl)
set_option maxRecDepth 100000 in
theorem mv_PotSearch_weigh : Cond.selects y_PotSearch_weigh.1.cls y_PotSearch_weigh.1 y_PotSearch_weigh.1 ∈ gtb := gtb_of (List.mem_append_left _ (List.mem_of_getElem? (i := 29) rfl)) rfl
set_option maxRecDepth 100000 in
theorem mi_Reader_init : Cond.instanceMethod y_Reader_init.1 ∈ gtb := (gk_1 (List.mem_of_getElem? (i := 47) rfl) rfl)
set_option maxRecDepth 100000 in
theorem mi_Reader_holdSign : Cond.instanceMethod y_Reader_holdSign.1 ∈ gtb := (gk_3 (List.mem_of_getElem? (i := 175) rfl) rfl)
set_option maxRecDepth 100000 in
theorem mv_Reader_holdSign : Cond.selects y_Reader_holdSign.1.cls y_Reader_holdSign.1 y_Reader_holdSign.1 ∈ gtb := gtb_of (List.mem_append_left _ (List.mem_of_getElem? (i := 21) rfl)) rfl
set_option maxRecDepth 100000 in
theorem mi_Reader_indexOf : Cond.instanceMethod y_Reader_indexOf.1 ∈ gtb := (gk_3 (List.mem_of_getElem? (i := 124) rfl) rfl)
set_option maxRecDepth 100000 in
theorem mv_Reader_indexOf : Cond.selects y_Reader_indexOf.1.cls y_Reader_indexOf.1 y_Reader_indexOf.1 ∈ gtb := gtb_of (List.mem_append_left _ (List.mem_of_getElem? (i := 10) rfl)) rfl
set_option maxRecDepth 100000 in
theorem mi_Reader_is : Cond.instanceMethod y_Reader_is.1 ∈ gtb := (gk_3 (List.mem_of_getElem? (i := 97) rfl) rfl)
set_option maxRecDepth 100000 in
theorem mv_Reader_is : Cond.selects y_Reader_is.1.cls y_Reader_is.1 y_Reader_is.1 ∈ gtb := gtb_of (List.mem_append_left _ (List.mem_of_getElem? (i := 5) rfl)) rfl
set_option maxRecDepth 100000 in
theorem mi_Reader_layHeld : Cond.instanceMethod y_Reader_layHeld.1 ∈ gtb := (gk_3 (List.mem_of_getElem? (i := 193) rfl) rfl)
set_option maxRecDepth 100000 in
theorem mv_Reader_layHeld : Cond.selects y_Reader_layHeld.1.cls y_Reader_layHeld.1 y_Reader_layHeld.1 ∈ gtb := gtb_of (List.mem_append_left _ (List.mem_of_getElem? (i := 23) rfl)) rfl
set_option maxRecDepth 100000 in
theorem mi_Reader_need : Cond.instanceMethod y_Reader_need.1 ∈ gtb := (gk_3 (List.mem_of_getElem? (i := 132) rfl) rfl)
set_option maxRecDepth 100000 in
theorem mv_Reader_need : Cond.selects y_Reader_need.1.cls y_Reader_need.1 y_Reader_need.1 ∈ gtb := gtb_of (List.mem_append_left _ (List.mem_of_getElem? (i := 12) rfl)) rfl
set_option maxRecDepth 100000 in
theorem mi_Reader_parse : Cond.instanceMethod y_Reader_parse.1 ∈ gtb := (gk_3 (List.mem_of_getElem? (i := 42) rfl) rfl)
set_option maxRecDepth 100000 in
theorem mv_Reader_parse : Cond.selects y_Reader_parse.1.cls y_Reader_parse.1 y_Reader_parse.1 ∈ gtb := (gk_3 (List.mem_of_getElem? (i := 43) rfl) rfl)
set_option maxRecDepth 100000 in
theorem mi_Reader_placeOfFault : Cond.instanceMethod y_Reader_placeOfFault.1 ∈ gtb := (gk_3 (List.mem_of_getElem? (i := 214) rfl) rfl)
set_option maxRecDepth 100000 in
theorem mv_Reader_placeOfFault : Cond.selects y_Reader_placeOfFault.1.cls y_Reader_placeOfFault.1 y_Reader_placeOfFault.1 ∈ gtb := (gk_3 (List.mem_of_getElem? (i := 215) rfl) rfl)
set_option maxRecDepth 100000 in
theorem ms_Reader_rank : Cond.static y_Reader_rank.1 ∈ gtb := (gk_3 (List.mem_of_getElem? (i := 185) rfl) rfl)
set_option maxRecDepth 100000 in
theorem mi_Reader_stop : Cond.instanceMethod y_Reader_stop.1 ∈ gtb := (gk_3 (List.mem_of_getElem? (i := 108) rfl) rfl)
set_option maxRecDepth 100000 in
theorem mv_Reader_stop : Cond.selects y_Reader_stop.1.cls y_Reader_stop.1 y_Reader_stop.1 ∈ gtb := gtb_of (List.mem_append_left _ (List.mem_of_getElem? (i := 7) rfl)) rfl
set_option maxRecDepth 100000 in
theorem mi_Reader_stopLate : Cond.instanceMethod y_Reader_stopLate.1 ∈ gtb := (gk_3 (List.mem_of_getElem? (i := 128) rfl) rfl)
set_option maxRecDepth 100000 in
theorem mv_Reader_stopLate : Cond.selects y_Reader_stopLate.1.cls y_Reader_stopLate.1 y_Reader_stopLate.1 ∈ gtb := gtb_of (List.mem_append_left _ (List.mem_of_getElem? (i := 11) rfl)) rfl
set_option maxRecDepth 100000 in
theorem mi_Reader_take : Cond.instanceMethod y_Reader_take.1 ∈ gtb := (gk_3 (List.mem_of_getElem? (i := 112) rfl) rfl)
set_option maxRecDepth 100000 in
theorem mv_Reader_take : Cond.selects y_Reader_take.1.cls y_Reader_take.1 y_Reader_take.1 ∈ gtb := gtb_of (List.mem_append_left _ (List.mem_of_getElem? (i := 8) rfl)) rfl
set_option maxRecDepth 100000 in
theorem mi_Reader_takeClose : Cond.instanceMethod y_Reader_takeClose.1 ∈ gtb := (gk_3 (List.mem_of_getElem? (i := 197) rfl) rfl)
set_option maxRecDepth 100000 in
theorem mv_Reader_takeClose : Cond.selects y_Reader_takeClose.1.cls y_Reader_takeClose.1 y_Reader_takeClose.1 ∈ gtb := gtb_of (List.mem_append_left _ (List.mem_of_getElem? (i := 24) rfl)) rfl
set_option maxRecDepth 100000 in
theorem mi_Reader_takeDeed : Cond.instanceMethod y_Reader_takeDeed.1 ∈ gtb := (gk_3 (List.mem_of_getElem? (i := 158) rfl) rfl)
set_option maxRecDepth 100000 in
theorem mv_Reader_takeDeed : Cond.selects y_Reader_takeDeed.1.cls y_Reader_takeDeed.1 y_Reader_takeDeed.1 ∈ gtb := gtb_of (List.mem_append_left _ (List.mem_of_getElem? (i := 17) rfl)) rfl
set_option maxRecDepth 100000 in
theorem mi_Reader_takeDish : Cond.instanceMethod y_Reader_takeDish.1 ∈ gtb := (gk_3 (List.mem_of_getElem? (i := 141) rfl) rfl)
set_option maxRecDepth 100000 in
theorem mv_Reader_takeDish : Cond.selects y_Reader_takeDish.1.cls y_Reader_takeDish.1 y_Reader_takeDish.1 ∈ gtb := gtb_of (List.mem_append_left _ (List.mem_of_getElem? (i := 14) rfl)) rfl
set_option maxRecDepth 100000 in
theorem mi_Reader_takeFood : Cond.instanceMethod y_Reader_takeFood.1 ∈ gtb := (gk_3 (List.mem_of_getElem? (i := 104) rfl) rfl)
set_option maxRecDepth 100000 in
theorem mv_Reader_takeFood : Cond.selects y_Reader_takeFood.1.cls y_Reader_takeFood.1 y_Reader_takeFood.1 ∈ gtb := gtb_of (List.mem_append_left _ (List.mem_of_getElem? (i := 6) rfl)) rfl
set_option maxRecDepth 100000 in
theorem mi_Reader_takeGuest : Cond.instanceMethod y_Reader_takeGuest.1 ∈ gtb := (gk_3 (List.mem_of_getElem? (i := 154) rfl) rfl)
set_option maxRecDepth 100000 in
theorem mv_Reader_takeGuest : Cond.selects y_Reader_takeGuest.1.cls y_Reader_takeGuest.1 y_Reader_takeGuest.1 ∈ gtb := gtb_of (List.mem_append_left _ (List.mem_of_getElem? (i := 16) rfl)) rfl
set_option maxRecDepth 100000 in
theorem mi_Reader_takeIngredient : Cond.instanceMethod y_Reader_takeIngredient.1 ∈ gtb := (gk_3 (List.mem_of_getElem? (i := 145) rfl) rfl)
set_option maxRecDepth 100000 in
theorem mv_Reader_takeIngredient : Cond.selects y_Reader_takeIngredient.1.cls y_Reader_takeIngredient.1 y_Reader_takeIngredient.1 ∈ gtb := gtb_of (List.mem_append_left _ (List.mem_of_getElem? (i := 15) rfl)) rfl
set_option maxRecDepth 100000 in
theorem mi_Reader_takeInt : Cond.instanceMethod y_Reader_takeInt.1 ∈ gtb := (gk_3 (List.mem_of_getElem? (i := 136) rfl) rfl)
set_option maxRecDepth 100000 in
theorem mv_Reader_takeInt : Cond.selects y_Reader_takeInt.1.cls y_Reader_takeInt.1 y_Reader_takeInt.1 ∈ gtb := gtb_of (List.mem_append_left _ (List.mem_of_getElem? (i := 13) rfl)) rfl
set_option maxRecDepth 100000 in
theorem mi_Reader_takeLaw : Cond.instanceMethod y_Reader_takeLaw.1 ∈ gtb := (gk_3 (List.mem_of_getElem? (i := 162) rfl) rfl)
set_option maxRecDepth 100000 in
theorem mv_Reader_takeLaw : Cond.selects y_Reader_takeLaw.1.cls y_Reader_takeLaw.1 y_Reader_takeLaw.1 ∈ gtb := gtb_of (List.mem_append_left _ (List.mem_of_getElem? (i := 18) rfl)) rfl
set_option maxRecDepth 100000 in
theorem mi_Reader_takeNewName : Cond.instanceMethod y_Reader_takeNewName.1 ∈ gtb := (gk_3 (List.mem_of_getElem? (i := 116) rfl) rfl)
set_option maxRecDepth 100000 in
theorem mv_Reader_takeNewName : Cond.selects y_Reader_takeNewName.1.cls y_Reader_takeNewName.1 y_Reader_takeNewName.1 ∈ gtb := gtb_of (List.mem_append_left _ (List.mem_of_getElem? (i := 9) rfl)) rfl
set_option maxRecDepth 100000 in
theorem mi_Reader_takeSeed : Cond.instanceMethod y_Reader_takeSeed.1 ∈ gtb := (gk_3 (List.mem_of_getElem? (i := 211) rfl) rfl)
set_option maxRecDepth 100000 in
theorem mv_Reader_takeSeed : Cond.selects y_Reader_takeSeed.1.cls y_Reader_takeSeed.1 y_Reader_takeSeed.1 ∈ gtb := gtb_of (List.mem_append_left _ (List.mem_of_getElem? (i := 25) rfl)) rfl
set_option maxRecDepth 100000 in
theorem mi_Reader_takeSign : Cond.instanceMethod y_Reader_takeSign.1 ∈ gtb := (gk_3 (List.mem_of_getElem? (i := 189) rfl) rfl)
set_option maxRecDepth 100000 in
theorem mv_Reader_takeSign : Cond.selects y_Reader_takeSign.1.cls y_Reader_takeSign.1 y_Reader_takeSign.1 ∈ gtb := gtb_of (List.mem_append_left _ (List.mem_of_getElem? (i := 22) rfl)) rfl
set_option maxRecDepth 100000 in
theorem mi_Reader_takeSum : Cond.instanceMethod y_Reader_takeSum.1 ∈ gtb := (gk_3 (List.mem_of_getElem? (i := 167) rfl) rfl)
set_option maxRecDepth 100000 in
theorem mv_Reader_takeSum : Cond.selects y_Reader_takeSum.1.cls y_Reader_takeSum.1 y_Reader_takeSum.1 ∈ gtb := gtb_of (List.mem_append_left _ (List.mem_of_getElem? (i := 19) rfl)) rfl
set_option maxRecDepth 100000 in
theorem mi_Reader_takeUnit : Cond.instanceMethod y_Reader_takeUnit.1 ∈ gtb := (gk_3 (List.mem_of_getElem? (i := 171) rfl) rfl)
set_option maxRecDepth 100000 in
theorem mv_Reader_takeUnit : Cond.selects y_Reader_takeUnit.1.cls y_Reader_takeUnit.1 y_Reader_takeUnit.1 ∈ gtb := gtb_of (List.mem_append_left _ (List.mem_of_getElem? (i := 20) rfl)) rfl
set_option maxRecDepth 100000 in
theorem mi_Slots_init : Cond.instanceMethod y_Slots_init.1 ∈ gtb := (gk_2 (List.mem_of_getElem? (i := 109) rfl) rfl)
set_option maxRecDepth 100000 in
theorem mi_Slots_bring : Cond.instanceMethod y_Slots_bring.1 ∈ gtb := (gk_5 (List.mem_of_getElem? (i := 162) rfl) rfl)
set_option maxRecDepth 100000 in
theorem mv_Slots_bring : Cond.selects y_Slots_bring.1.cls y_Slots_bring.1 y_Slots_bring.1 ∈ gtb := (gk_5 (List.mem_of_getElem? (i := 163) rfl) rfl)
set_option maxRecDepth 100000 in
theorem mi_Slots_clear : Cond.instanceMethod y_Slots_clear.1 ∈ gtb := (gk_3 (List.mem_of_getElem? (i := 233) rfl) rfl)
set_option maxRecDepth 100000 in
theorem mv_Slots_clear : Cond.selects y_Slots_clear.1.cls y_Slots_clear.1 y_Slots_clear.1 ∈ gtb := (gk_3 (List.mem_of_getElem? (i := 234) rfl) rfl)
set_option maxRecDepth 100000 in
theorem mi_Slots_full : Cond.instanceMethod y_Slots_full.1 ∈ gtb := (gk_5 (List.mem_of_getElem? (i := 171) rfl) rfl)
set_option maxRecDepth 100000 in
theorem mv_Slots_full : Cond.selects y_Slots_full.1.cls y_Slots_full.1 y_Slots_full.1 ∈ gtb := (gk_5 (List.mem_of_getElem? (i := 172) rfl) rfl)
set_option maxRecDepth 100000 in
theorem mi_Slots_keep : Cond.instanceMethod y_Slots_keep.1 ∈ gtb := (gk_5 (List.mem_of_getElem? (i := 153) rfl) rfl)
set_option maxRecDepth 100000 in
theorem mv_Slots_keep : Cond.selects y_Slots_keep.1.cls y_Slots_keep.1 y_Slots_keep.1 ∈ gtb := (gk_5 (List.mem_of_getElem? (i := 154) rfl) rfl)
set_option maxRecDepth 100000 in
theorem mi_State_init : Cond.instanceMethod y_State_init.1 ∈ gtb := (gk_2 (List.mem_of_getElem? (i := 41) rfl) rfl)
set_option maxRecDepth 100000 in
theorem mi_State_agoOf : Cond.instanceMethod y_State_agoOf.1 ∈ gtb := (gk_4 (List.mem_of_getElem? (i := 80) rfl) rfl)
set_option maxRecDepth 100000 in
theorem mv_State_agoOf : Cond.selects y_State_agoOf.1.cls y_State_agoOf.1 y_State_agoOf.1 ∈ gtb := (gk_4 (List.mem_of_getElem? (i := 81) rfl) rfl)
set_option maxRecDepth 100000 in
theorem mi_State_allMeals : Cond.instanceMethod y_State_allMeals.1 ∈ gtb := (gk_5 (List.mem_of_getElem? (i := 176) rfl) rfl)
set_option maxRecDepth 100000 in
theorem mv_State_allMeals : Cond.selects y_State_allMeals.1.cls y_State_allMeals.1 y_State_allMeals.1 ∈ gtb := (gk_5 (List.mem_of_getElem? (i := 177) rfl) rfl)
set_option maxRecDepth 100000 in
theorem mi_State_begin : Cond.instanceMethod y_State_begin.1 ∈ gtb := (gk_3 (List.mem_of_getElem? (i := 222) rfl) rfl)
set_option maxRecDepth 100000 in
theorem mv_State_begin : Cond.selects y_State_begin.1.cls y_State_begin.1 y_State_begin.1 ∈ gtb := (gk_3 (List.mem_of_getElem? (i := 223) rfl) rfl)
set_option maxRecDepth 100000 in
theorem mi_State_boundOf : Cond.instanceMethod y_State_boundOf.1 ∈ gtb := (gk_4 (List.mem_of_getElem? (i := 84) rfl) rfl)
set_option maxRecDepth 100000 in
theorem mv_State_boundOf : Cond.selects y_State_boundOf.1.cls y_State_boundOf.1 y_State_boundOf.1 ∈ gtb := (gk_4 (List.mem_of_getElem? (i := 85) rfl) rfl)
set_option maxRecDepth 100000 in
theorem mi_State_cookOne : Cond.instanceMethod y_State_cookOne.1 ∈ gtb := (gk_4 (List.mem_of_getElem? (i := 135) rfl) rfl)
set_option maxRecDepth 100000 in
theorem mv_State_cookOne : Cond.selects y_State_cookOne.1.cls y_State_cookOne.1 y_State_cookOne.1 ∈ gtb := (gk_4 (List.mem_of_getElem? (i := 136) rfl) rfl)
set_option maxRecDepth 100000 in
theorem mi_State_copyFrom : Cond.instanceMethod y_State_copyFrom.1 ∈ gtb := (gk_4 (List.mem_of_getElem? (i := 127) rfl) rfl)
set_option maxRecDepth 100000 in
theorem mv_State_copyFrom : Cond.selects y_State_copyFrom.1.cls y_State_copyFrom.1 y_State_copyFrom.1 ∈ gtb := (gk_4 (List.mem_of_getElem? (i := 128) rfl) rfl)
set_option maxRecDepth 100000 in
theorem mi_State_eatServed : Cond.instanceMethod y_State_eatServed.1 ∈ gtb := (gk_4 (List.mem_of_getElem? (i := 160) rfl) rfl)
set_option maxRecDepth 100000 in
theorem mv_State_eatServed : Cond.selects y_State_eatServed.1.cls y_State_eatServed.1 y_State_eatServed.1 ∈ gtb := (gk_4 (List.mem_of_getElem? (i := 161) rfl) rfl)
set_option maxRecDepth 100000 in
theorem mi_State_freeOf : Cond.instanceMethod y_State_freeOf.1 ∈ gtb := (gk_4 (List.mem_of_getElem? (i := 102) rfl) rfl)
set_option maxRecDepth 100000 in
theorem mv_State_freeOf : Cond.selects y_State_freeOf.1.cls y_State_freeOf.1 y_State_freeOf.1 ∈ gtb := (gk_4 (List.mem_of_getElem? (i := 103) rfl) rfl)
set_option maxRecDepth 100000 in
theorem mi_State_hasEaten : Cond.instanceMethod y_State_hasEaten.1 ∈ gtb := (gk_4 (List.mem_of_getElem? (i := 76) rfl) rfl)
set_option maxRecDepth 100000 in
theorem mv_State_hasEaten : Cond.selects y_State_hasEaten.1.cls y_State_hasEaten.1 y_State_hasEaten.1 ∈ gtb := (gk_4 (List.mem_of_getElem? (i := 77) rfl) rfl)
set_option maxRecDepth 100000 in
theorem mi_State_inStore : Cond.instanceMethod y_State_inStore.1 ∈ gtb := (gk_4 (List.mem_of_getElem? (i := 118) rfl) rfl)
set_option maxRecDepth 100000 in
theorem mv_State_inStore : Cond.selects y_State_inStore.1.cls y_State_inStore.1 y_State_inStore.1 ∈ gtb := (gk_4 (List.mem_of_getElem? (i := 119) rfl) rfl)
set_option maxRecDepth 100000 in
theorem mi_State_passDays : Cond.instanceMethod y_State_passDays.1 ∈ gtb := (gk_4 (List.mem_of_getElem? (i := 168) rfl) rfl)
set_option maxRecDepth 100000 in
theorem mv_State_passDays : Cond.selects y_State_passDays.1.cls y_State_passDays.1 y_State_passDays.1 ∈ gtb := (gk_4 (List.mem_of_getElem? (i := 169) rfl) rfl)
set_option maxRecDepth 100000 in
theorem mi_State_slipInto : Cond.instanceMethod y_State_slipInto.1 ∈ gtb := (gk_4 (List.mem_of_getElem? (i := 139) rfl) rfl)
set_option maxRecDepth 100000 in
theorem mv_State_slipInto : Cond.selects y_State_slipInto.1.cls y_State_slipInto.1 y_State_slipInto.1 ∈ gtb := (gk_4 (List.mem_of_getElem? (i := 140) rfl) rfl)
set_option maxRecDepth 100000 in
theorem mi_Tape_init : Cond.instanceMethod y_Tape_init.1 ∈ gtb := (gk_1 (List.mem_of_getElem? (i := 31) rfl) rfl)
set_option maxRecDepth 100000 in
theorem mi_Tape_byteAt : Cond.instanceMethod y_Tape_byteAt.1 ∈ gtb := (gk_3 (List.mem_of_getElem? (i := 53) rfl) rfl)
set_option maxRecDepth 100000 in
theorem mv_Tape_byteAt : Cond.selects y_Tape_byteAt.1.cls y_Tape_byteAt.1 y_Tape_byteAt.1 ∈ gtb := (gk_3 (List.mem_of_getElem? (i := 54) rfl) rfl)
set_option maxRecDepth 100000 in
theorem mi_Tape_write : Cond.instanceMethod y_Tape_write.1 ∈ gtb := (gk_3 (List.mem_of_getElem? (i := 27) rfl) rfl)
set_option maxRecDepth 100000 in
theorem mv_Tape_write : Cond.selects y_Tape_write.1.cls y_Tape_write.1 y_Tape_write.1 ∈ gtb := (gk_3 (List.mem_of_getElem? (i := 28) rfl) rfl)
set_option maxRecDepth 100000 in
theorem mi_Tokens_init : Cond.instanceMethod y_Tokens_init.1 ∈ gtb := (gk_1 (List.mem_of_getElem? (i := 53) rfl) rfl)
set_option maxRecDepth 100000 in
theorem ms_Tokens_behindBlanks : Cond.static y_Tokens_behindBlanks.1 ∈ gtb := (gk_3 (List.mem_of_getElem? (i := 50) rfl) rfl)
set_option maxRecDepth 100000 in
theorem mi_Tokens_cut : Cond.instanceMethod y_Tokens_cut.1 ∈ gtb := (gk_3 (List.mem_of_getElem? (i := 46) rfl) rfl)
set_option maxRecDepth 100000 in
theorem mv_Tokens_cut : Cond.selects y_Tokens_cut.1.cls y_Tokens_cut.1 y_Tokens_cut.1 ∈ gtb := (gk_3 (List.mem_of_getElem? (i := 47) rfl) rfl)
set_option maxRecDepth 100000 in
theorem mi_Tokens_cutDigits : Cond.instanceMethod y_Tokens_cutDigits.1 ∈ gtb := (gk_3 (List.mem_of_getElem? (i := 77) rfl) rfl)
set_option maxRecDepth 100000 in
theorem mv_Tokens_cutDigits : Cond.selects y_Tokens_cutDigits.1.cls y_Tokens_cutDigits.1 y_Tokens_cutDigits.1 ∈ gtb := gtb_of (List.mem_append_left _ (List.mem_of_getElem? (i := 4) rfl)) rfl
set_option maxRecDepth 100000 in
theorem mi_Tokens_cutLetters : Cond.instanceMethod y_Tokens_cutLetters.1 ∈ gtb := (gk_3 (List.mem_of_getElem? (i := 65) rfl) rfl)
set_option maxRecDepth 100000 in
theorem mv_Tokens_cutLetters : Cond.selects y_Tokens_cutLetters.1.cls y_Tokens_cutLetters.1 y_Tokens_cutLetters.1 ∈ gtb := gtb_of (List.mem_append_left _ (List.mem_of_getElem? (i := 1) rfl)) rfl
set_option maxRecDepth 100000 in
theorem mi_Tokens_cutOne : Cond.instanceMethod y_Tokens_cutOne.1 ∈ gtb := (gk_3 (List.mem_of_getElem? (i := 61) rfl) rfl)
set_option maxRecDepth 100000 in
theorem mv_Tokens_cutOne : Cond.selects y_Tokens_cutOne.1.cls y_Tokens_cutOne.1 y_Tokens_cutOne.1 ∈ gtb := gtb_of (List.mem_append_left _ (List.mem_of_getElem? (i := 0) rfl)) rfl
set_option maxRecDepth 100000 in
theorem ms_Tokens_isBlank : Cond.static y_Tokens_isBlank.1 ∈ gtb := (gk_3 (List.mem_of_getElem? (i := 57) rfl) rfl)
set_option maxRecDepth 100000 in
theorem ms_Tokens_isSign : Cond.static y_Tokens_isSign.1 ∈ gtb := (gk_3 (List.mem_of_getElem? (i := 81) rfl) rfl)
set_option maxRecDepth 100000 in
theorem mi_Tokens_kindOf : Cond.instanceMethod y_Tokens_kindOf.1 ∈ gtb := (gk_3 (List.mem_of_getElem? (i := 69) rfl) rfl)
set_option maxRecDepth 100000 in
theorem mv_Tokens_kindOf : Cond.selects y_Tokens_kindOf.1.cls y_Tokens_kindOf.1 y_Tokens_kindOf.1 ∈ gtb := gtb_of (List.mem_append_left _ (List.mem_of_getElem? (i := 2) rfl)) rfl
set_option maxRecDepth 100000 in
theorem mi_Tokens_set : Cond.instanceMethod y_Tokens_set.1 ∈ gtb := (gk_3 (List.mem_of_getElem? (i := 73) rfl) rfl)
set_option maxRecDepth 100000 in
theorem mv_Tokens_set : Cond.selects y_Tokens_set.1.cls y_Tokens_set.1 y_Tokens_set.1 ∈ gtb := gtb_of (List.mem_append_left _ (List.mem_of_getElem? (i := 3) rfl)) rfl
set_option maxRecDepth 100000 in
theorem mi_Tokens_valueAt : Cond.instanceMethod y_Tokens_valueAt.1 ∈ gtb := (gk_3 (List.mem_of_getElem? (i := 119) rfl) rfl)
set_option maxRecDepth 100000 in
theorem mv_Tokens_valueAt : Cond.selects y_Tokens_valueAt.1.cls y_Tokens_valueAt.1 y_Tokens_valueAt.1 ∈ gtb := (gk_3 (List.mem_of_getElem? (i := 120) rfl) rfl)
set_option maxRecDepth 100000 in
theorem ms_Tokens_withLetter : Cond.static y_Tokens_withLetter.1 ∈ gtb := (gk_1 (List.mem_of_getElem? (i := 106) rfl) rfl)
set_option maxRecDepth 100000 in
theorem mi_Told_init : Cond.instanceMethod y_Told_init.1 ∈ gtb := (gk_2 (List.mem_of_getElem? (i := 124) rfl) rfl)
set_option maxRecDepth 100000 in
theorem mi_Told_add : Cond.instanceMethod y_Told_add.1 ∈ gtb := (gk_5 (List.mem_of_getElem? (i := 92) rfl) rfl)
set_option maxRecDepth 100000 in
theorem mv_Told_add : Cond.selects y_Told_add.1.cls y_Told_add.1 y_Told_add.1 ∈ gtb := (gk_5 (List.mem_of_getElem? (i := 93) rfl) rfl)
set_option maxRecDepth 100000 in
theorem mi_Told_clear : Cond.instanceMethod y_Told_clear.1 ∈ gtb := (gk_3 (List.mem_of_getElem? (i := 237) rfl) rfl)
set_option maxRecDepth 100000 in
theorem mv_Told_clear : Cond.selects y_Told_clear.1.cls y_Told_clear.1 y_Told_clear.1 ∈ gtb := (gk_3 (List.mem_of_getElem? (i := 238) rfl) rfl)
set_option maxRecDepth 100000 in
theorem mi_Told_forceOf : Cond.instanceMethod y_Told_forceOf.1 ∈ gtb := (gk_5 (List.mem_of_getElem? (i := 123) rfl) rfl)
set_option maxRecDepth 100000 in
theorem mv_Told_forceOf : Cond.selects y_Told_forceOf.1.cls y_Told_forceOf.1 y_Told_forceOf.1 ∈ gtb := gtb_of (List.mem_append_left _ (List.mem_of_getElem? (i := 43) rfl)) rfl
set_option maxRecDepth 100000 in
theorem mi_Told_gather : Cond.instanceMethod y_Told_gather.1 ∈ gtb := (gk_5 (List.mem_of_getElem? (i := 105) rfl) rfl)
set_option maxRecDepth 100000 in
theorem mv_Told_gather : Cond.selects y_Told_gather.1.cls y_Told_gather.1 y_Told_gather.1 ∈ gtb := (gk_5 (List.mem_of_getElem? (i := 106) rfl) rfl)
set_option maxRecDepth 100000 in
theorem mi_Told_isAsKnown : Cond.instanceMethod y_Told_isAsKnown.1 ∈ gtb := (gk_5 (List.mem_of_getElem? (i := 118) rfl) rfl)
set_option maxRecDepth 100000 in
theorem mv_Told_isAsKnown : Cond.selects y_Told_isAsKnown.1.cls y_Told_isAsKnown.1 y_Told_isAsKnown.1 ∈ gtb := gtb_of (List.mem_append_left _ (List.mem_of_getElem? (i := 42) rfl)) rfl
set_option maxRecDepth 100000 in
theorem mi_Told_lay : Cond.instanceMethod y_Told_lay.1 ∈ gtb := (gk_5 (List.mem_of_getElem? (i := 110) rfl) rfl)
set_option maxRecDepth 100000 in
theorem mv_Told_lay : Cond.selects y_Told_lay.1.cls y_Told_lay.1 y_Told_lay.1 ∈ gtb := gtb_of (List.mem_append_left _ (List.mem_of_getElem? (i := 41) rfl)) rfl
set_option maxRecDepth 100000 in
theorem mi_Told_mostAlike : Cond.instanceMethod y_Told_mostAlike.1 ∈ gtb := (gk_5 (List.mem_of_getElem? (i := 144) rfl) rfl)
set_option maxRecDepth 100000 in
theorem mv_Told_mostAlike : Cond.selects y_Told_mostAlike.1.cls y_Told_mostAlike.1 y_Told_mostAlike.1 ∈ gtb := gtb_of (List.mem_append_left _ (List.mem_of_getElem? (i := 44) rfl)) rfl
set_option maxRecDepth 100000 in
theorem mi_Told_nextTaste : Cond.instanceMethod y_Told_nextTaste.1 ∈ gtb := (gk_5 (List.mem_of_getElem? (i := 139) rfl) rfl)
set_option maxRecDepth 100000 in
theorem mv_Told_nextTaste : Cond.selects y_Told_nextTaste.1.cls y_Told_nextTaste.1 y_Told_nextTaste.1 ∈ gtb := (gk_5 (List.mem_of_getElem? (i := 140) rfl) rfl)
set_option maxRecDepth 100000 in
theorem mi_Told_onlyDish : Cond.instanceMethod y_Told_onlyDish.1 ∈ gtb := (gk_5 (List.mem_of_getElem? (i := 131) rfl) rfl)
set_option maxRecDepth 100000 in
theorem mv_Told_onlyDish : Cond.selects y_Told_onlyDish.1.cls y_Told_onlyDish.1 y_Told_onlyDish.1 ∈ gtb := (gk_5 (List.mem_of_getElem? (i := 132) rfl) rfl)
set_option maxRecDepth 100000 in
theorem ms_Mod_appends : Cond.static y_Mod_appends.1 ∈ gtb := (gk_5 (List.mem_of_getElem? (i := 193) rfl) rfl)
set_option maxRecDepth 100000 in
theorem mi_Mod_asks : Cond.instanceMethod y_Mod_asks.1 ∈ gtb := (gk_7 (List.mem_of_getElem? (i := 100) rfl) rfl)
set_option maxRecDepth 100000 in
theorem mv_Mod_asks : Cond.selects y_Mod_asks.1.cls y_Mod_asks.1 y_Mod_asks.1 ∈ gtb := gtb_of (List.mem_append_left _ (List.mem_of_getElem? (i := 80) rfl)) rfl
set_option maxRecDepth 100000 in
theorem mi_Mod_begins : Cond.instanceMethod y_Mod_begins.1 ∈ gtb := (gk_5 (List.mem_of_getElem? (i := 198) rfl) rfl)
set_option maxRecDepth 100000 in
theorem mv_Mod_begins : Cond.selects y_Mod_begins.1.cls y_Mod_begins.1 y_Mod_begins.1 ∈ gtb := gtb_of (List.mem_append_left _ (List.mem_of_getElem? (i := 46) rfl)) rfl
set_option maxRecDepth 100000 in
theorem ms_Mod_bits : Cond.static y_Mod_bits.1 ∈ gtb := (gk_7 (List.mem_of_getElem? (i := 232) rfl) rfl)
set_option maxRecDepth 100000 in
theorem mi_Mod_boundBy : Cond.instanceMethod y_Mod_boundBy.1 ∈ gtb := (gk_7 (List.mem_of_getElem? (i := 131) rfl) rfl)
set_option maxRecDepth 100000 in
theorem mv_Mod_boundBy : Cond.selects y_Mod_boundBy.1.cls y_Mod_boundBy.1 y_Mod_boundBy.1 ∈ gtb := gtb_of (List.mem_append_left _ (List.mem_of_getElem? (i := 85) rfl)) rfl
set_option maxRecDepth 100000 in
theorem mi_Mod_boundNow : Cond.instanceMethod y_Mod_boundNow.1 ∈ gtb := (gk_7 (List.mem_of_getElem? (i := 127) rfl) rfl)
set_option maxRecDepth 100000 in
theorem mv_Mod_boundNow : Cond.selects y_Mod_boundNow.1.cls y_Mod_boundNow.1 y_Mod_boundNow.1 ∈ gtb := gtb_of (List.mem_append_left _ (List.mem_of_getElem? (i := 84) rfl)) rfl
set_option maxRecDepth 100000 in
theorem mi_Mod_bounded : Cond.instanceMethod y_Mod_bounded.1 ∈ gtb := (gk_7 (List.mem_of_getElem? (i := 13) rfl) rfl)
set_option maxRecDepth 100000 in
theorem mv_Mod_bounded : Cond.selects y_Mod_bounded.1.cls y_Mod_bounded.1 y_Mod_bounded.1 ∈ gtb := gtb_of (List.mem_append_left _ (List.mem_of_getElem? (i := 62) rfl)) rfl
set_option maxRecDepth 100000 in
theorem mi_Mod_byteAt : Cond.instanceMethod y_Mod_byteAt.1 ∈ gtb := (gk_6 (List.mem_of_getElem? (i := 199) rfl) rfl)
set_option maxRecDepth 100000 in
theorem mv_Mod_byteAt : Cond.selects y_Mod_byteAt.1.cls y_Mod_byteAt.1 y_Mod_byteAt.1 ∈ gtb := gtb_of (List.mem_append_left _ (List.mem_of_getElem? (i := 50) rfl)) rfl
set_option maxRecDepth 100000 in
theorem mi_Mod_comesOut : Cond.instanceMethod y_Mod_comesOut.1 ∈ gtb := (gk_7 (List.mem_of_getElem? (i := 45) rfl) rfl)
set_option maxRecDepth 100000 in
theorem mv_Mod_comesOut : Cond.selects y_Mod_comesOut.1.cls y_Mod_comesOut.1 y_Mod_comesOut.1 ∈ gtb := gtb_of (List.mem_append_left _ (List.mem_of_getElem? (i := 70) rfl)) rfl
set_option maxRecDepth 100000 in
theorem mi_Mod_cooks : Cond.instanceMethod y_Mod_cooks.1 ∈ gtb := (gk_7 (List.mem_of_getElem? (i := 155) rfl) rfl)
set_option maxRecDepth 100000 in
theorem mv_Mod_cooks : Cond.selects y_Mod_cooks.1.cls y_Mod_cooks.1 y_Mod_cooks.1 ∈ gtb := gtb_of (List.mem_append_left _ (List.mem_of_getElem? (i := 89) rfl)) rfl
set_option maxRecDepth 100000 in
theorem mi_Mod_copies : Cond.instanceMethod y_Mod_copies.1 ∈ gtb := (gk_7 (List.mem_of_getElem? (i := 76) rfl) rfl)
set_option maxRecDepth 100000 in
theorem mv_Mod_copies : Cond.selects y_Mod_copies.1.cls y_Mod_copies.1 y_Mod_copies.1 ∈ gtb := gtb_of (List.mem_append_left _ (List.mem_of_getElem? (i := 74) rfl)) rfl
set_option maxRecDepth 100000 in
theorem mi_Mod_cut : Cond.instanceMethod y_Mod_cut.1 ∈ gtb := (gk_6 (List.mem_of_getElem? (i := 195) rfl) rfl)
set_option maxRecDepth 100000 in
theorem mv_Mod_cut : Cond.selects y_Mod_cut.1.cls y_Mod_cut.1 y_Mod_cut.1 ∈ gtb := gtb_of (List.mem_append_left _ (List.mem_of_getElem? (i := 49) rfl)) rfl
set_option maxRecDepth 100000 in
theorem mi_Mod_dayGoes : Cond.instanceMethod y_Mod_dayGoes.1 ∈ gtb := (gk_7 (List.mem_of_getElem? (i := 187) rfl) rfl)
set_option maxRecDepth 100000 in
theorem mv_Mod_dayGoes : Cond.selects y_Mod_dayGoes.1.cls y_Mod_dayGoes.1 y_Mod_dayGoes.1 ∈ gtb := gtb_of (List.mem_append_left _ (List.mem_of_getElem? (i := 94) rfl)) rfl
set_option maxRecDepth 100000 in
theorem mi_Mod_eatsDish : Cond.instanceMethod y_Mod_eatsDish.1 ∈ gtb := (gk_7 (List.mem_of_getElem? (i := 229) rfl) rfl)
set_option maxRecDepth 100000 in
theorem mv_Mod_eatsDish : Cond.selects y_Mod_eatsDish.1.cls y_Mod_eatsDish.1 y_Mod_eatsDish.1 ∈ gtb := gtb_of (List.mem_append_left _ (List.mem_of_getElem? (i := 99) rfl)) rfl
set_option maxRecDepth 100000 in
theorem mi_Mod_emit : Cond.instanceMethod y_Mod_emit.1 ∈ gtb := (gk_7 (List.mem_of_getElem? (i := 41) rfl) rfl)
set_option maxRecDepth 100000 in
theorem mv_Mod_emit : Cond.selects y_Mod_emit.1.cls y_Mod_emit.1 y_Mod_emit.1 ∈ gtb := gtb_of (List.mem_append_left _ (List.mem_of_getElem? (i := 69) rfl)) rfl
set_option maxRecDepth 100000 in
theorem mi_Mod_ends : Cond.instanceMethod y_Mod_ends.1 ∈ gtb := (gk_7 (List.mem_of_getElem? (i := 17) rfl) rfl)
set_option maxRecDepth 100000 in
theorem mv_Mod_ends : Cond.selects y_Mod_ends.1.cls y_Mod_ends.1 y_Mod_ends.1 ∈ gtb := gtb_of (List.mem_append_left _ (List.mem_of_getElem? (i := 63) rfl)) rfl
set_option maxRecDepth 100000 in
theorem mi_Mod_expression : Cond.instanceMethod y_Mod_expression.1 ∈ gtb := (gk_7 (List.mem_of_getElem? (i := 33) rfl) rfl)
set_option maxRecDepth 100000 in
theorem mv_Mod_expression : Cond.selects y_Mod_expression.1.cls y_Mod_expression.1 y_Mod_expression.1 ∈ gtb := gtb_of (List.mem_append_left _ (List.mem_of_getElem? (i := 67) rfl)) rfl
set_option maxRecDepth 100000 in
theorem mi_Mod_fail : Cond.instanceMethod y_Mod_fail.1 ∈ gtb := (gk_6 (List.mem_of_getElem? (i := 229) rfl) rfl)
set_option maxRecDepth 100000 in
theorem mv_Mod_fail : Cond.selects y_Mod_fail.1.cls y_Mod_fail.1 y_Mod_fail.1 ∈ gtb := gtb_of (List.mem_append_left _ (List.mem_of_getElem? (i := 56) rfl)) rfl
set_option maxRecDepth 100000 in
theorem mi_Mod_fillsPot : Cond.instanceMethod y_Mod_fillsPot.1 ∈ gtb := (gk_7 (List.mem_of_getElem? (i := 80) rfl) rfl)
set_option maxRecDepth 100000 in
theorem mv_Mod_fillsPot : Cond.selects y_Mod_fillsPot.1.cls y_Mod_fillsPot.1 y_Mod_fillsPot.1 ∈ gtb := gtb_of (List.mem_append_left _ (List.mem_of_getElem? (i := 75) rfl)) rfl
set_option maxRecDepth 100000 in
theorem mi_Mod_fillsWay : Cond.instanceMethod y_Mod_fillsWay.1 ∈ gtb := (gk_8 (List.mem_of_getElem? (i := 54) rfl) rfl)
set_option maxRecDepth 100000 in
theorem mv_Mod_fillsWay : Cond.selects y_Mod_fillsWay.1.cls y_Mod_fillsWay.1 y_Mod_fillsWay.1 ∈ gtb := gtb_of (List.mem_append_left _ (List.mem_of_getElem? (i := 102) rfl)) rfl
set_option maxRecDepth 100000 in
theorem mi_Mod_forceBy : Cond.instanceMethod y_Mod_forceBy.1 ∈ gtb := (gk_7 (List.mem_of_getElem? (i := 92) rfl) rfl)
set_option maxRecDepth 100000 in
theorem mv_Mod_forceBy : Cond.selects y_Mod_forceBy.1.cls y_Mod_forceBy.1 y_Mod_forceBy.1 ∈ gtb := gtb_of (List.mem_append_left _ (List.mem_of_getElem? (i := 78) rfl)) rfl
set_option maxRecDepth 100000 in
theorem mi_Mod_freeBits : Cond.instanceMethod y_Mod_freeBits.1 ∈ gtb := (gk_7 (List.mem_of_getElem? (i := 175) rfl) rfl)
set_option maxRecDepth 100000 in
theorem mv_Mod_freeBits : Cond.selects y_Mod_freeBits.1.cls y_Mod_freeBits.1 y_Mod_freeBits.1 ∈ gtb := gtb_of (List.mem_append_left _ (List.mem_of_getElem? (i := 92) rfl)) rfl
set_option maxRecDepth 100000 in
theorem mi_Mod_freestOf : Cond.instanceMethod y_Mod_freestOf.1 ∈ gtb := (gk_7 (List.mem_of_getElem? (i := 225) rfl) rfl)
set_option maxRecDepth 100000 in
theorem mv_Mod_freestOf : Cond.selects y_Mod_freestOf.1.cls y_Mod_freestOf.1 y_Mod_freestOf.1 ∈ gtb := gtb_of (List.mem_append_left _ (List.mem_of_getElem? (i := 98) rfl)) rfl
set_option maxRecDepth 100000 in
theorem mi_Mod_goes : Cond.instanceMethod y_Mod_goes.1 ∈ gtb := (gk_7 (List.mem_of_getElem? (i := 183) rfl) rfl)
set_option maxRecDepth 100000 in
theorem mv_Mod_goes : Cond.selects y_Mod_goes.1.cls y_Mod_goes.1 y_Mod_goes.1 ∈ gtb := gtb_of (List.mem_append_left _ (List.mem_of_getElem? (i := 93) rfl)) rfl
set_option maxRecDepth 100000 in
theorem mi_Mod_goesOn : Cond.instanceMethod y_Mod_goesOn.1 ∈ gtb := (gk_6 (List.mem_of_getElem? (i := 233) rfl) rfl)
set_option maxRecDepth 100000 in
theorem mv_Mod_goesOn : Cond.selects y_Mod_goesOn.1.cls y_Mod_goesOn.1 y_Mod_goesOn.1 ∈ gtb := gtb_of (List.mem_append_left _ (List.mem_of_getElem? (i := 57) rfl)) rfl
set_option maxRecDepth 100000 in
theorem ms_Mod_held : Cond.static y_Mod_held.1 ∈ gtb := (gk_7 (List.mem_of_getElem? (i := 111) rfl) rfl)
set_option maxRecDepth 100000 in
theorem ms_Mod_in : Cond.static y_Mod_in.1 ∈ gtb := (gk_7 (List.mem_of_getElem? (i := 64) rfl) rfl)
set_option maxRecDepth 100000 in
theorem mi_Mod_is : Cond.instanceMethod y_Mod_is.1 ∈ gtb := (gk_6 (List.mem_of_getElem? (i := 217) rfl) rfl)
set_option maxRecDepth 100000 in
theorem mv_Mod_is : Cond.selects y_Mod_is.1.cls y_Mod_is.1 y_Mod_is.1 ∈ gtb := gtb_of (List.mem_append_left _ (List.mem_of_getElem? (i := 53) rfl)) rfl
set_option maxRecDepth 100000 in
theorem mi_Mod_isAsKnown : Cond.instanceMethod y_Mod_isAsKnown.1 ∈ gtb := (gk_8 (List.mem_of_getElem? (i := 58) rfl) rfl)
set_option maxRecDepth 100000 in
theorem mv_Mod_isAsKnown : Cond.selects y_Mod_isAsKnown.1.cls y_Mod_isAsKnown.1 y_Mod_isAsKnown.1 ∈ gtb := gtb_of (List.mem_append_left _ (List.mem_of_getElem? (i := 103) rfl)) rfl
set_option maxRecDepth 100000 in
theorem mi_Mod_isBetter : Cond.instanceMethod y_Mod_isBetter.1 ∈ gtb := (gk_7 (List.mem_of_getElem? (i := 210) rfl) rfl)
set_option maxRecDepth 100000 in
theorem mv_Mod_isBetter : Cond.selects y_Mod_isBetter.1.cls y_Mod_isBetter.1 y_Mod_isBetter.1 ∈ gtb := gtb_of (List.mem_append_left _ (List.mem_of_getElem? (i := 97) rfl)) rfl
set_option maxRecDepth 100000 in
theorem mi_Mod_isDeed : Cond.instanceMethod y_Mod_isDeed.1 ∈ gtb := (gk_7 (List.mem_of_getElem? (i := 139) rfl) rfl)
set_option maxRecDepth 100000 in
theorem mv_Mod_isDeed : Cond.selects y_Mod_isDeed.1.cls y_Mod_isDeed.1 y_Mod_isDeed.1 ∈ gtb := gtb_of (List.mem_append_left _ (List.mem_of_getElem? (i := 86) rfl)) rfl
set_option maxRecDepth 100000 in
theorem ms_Mod_isDigit : Cond.static y_Mod_isDigit.1 ∈ gtb := (gk_6 (List.mem_of_getElem? (i := 209) rfl) rfl)
set_option maxRecDepth 100000 in
theorem mi_Mod_isDish : Cond.instanceMethod y_Mod_isDish.1 ∈ gtb := (gk_7 (List.mem_of_getElem? (i := 72) rfl) rfl)
set_option maxRecDepth 100000 in
theorem mv_Mod_isDish : Cond.selects y_Mod_isDish.1.cls y_Mod_isDish.1 y_Mod_isDish.1 ∈ gtb := gtb_of (List.mem_append_left _ (List.mem_of_getElem? (i := 73) rfl)) rfl
set_option maxRecDepth 100000 in
theorem mi_Mod_isFood : Cond.instanceMethod y_Mod_isFood.1 ∈ gtb := (gk_7 (List.mem_of_getElem? (i := 61) rfl) rfl)
set_option maxRecDepth 100000 in
theorem mv_Mod_isFood : Cond.selects y_Mod_isFood.1.cls y_Mod_isFood.1 y_Mod_isFood.1 ∈ gtb := gtb_of (List.mem_append_left _ (List.mem_of_getElem? (i := 72) rfl)) rfl
set_option maxRecDepth 100000 in
theorem mi_Mod_isFree : Cond.instanceMethod y_Mod_isFree.1 ∈ gtb := (gk_7 (List.mem_of_getElem? (i := 143) rfl) rfl)
set_option maxRecDepth 100000 in
theorem mv_Mod_isFree : Cond.selects y_Mod_isFree.1.cls y_Mod_isFree.1 y_Mod_isFree.1 ∈ gtb := gtb_of (List.mem_append_left _ (List.mem_of_getElem? (i := 87) rfl)) rfl
set_option maxRecDepth 100000 in
theorem mi_Mod_isGuest : Cond.instanceMethod y_Mod_isGuest.1 ∈ gtb := (gk_7 (List.mem_of_getElem? (i := 123) rfl) rfl)
set_option maxRecDepth 100000 in
theorem mv_Mod_isGuest : Cond.selects y_Mod_isGuest.1.cls y_Mod_isGuest.1 y_Mod_isGuest.1 ∈ gtb := gtb_of (List.mem_append_left _ (List.mem_of_getElem? (i := 83) rfl)) rfl
set_option maxRecDepth 100000 in
theorem mi_Mod_isInStore : Cond.instanceMethod y_Mod_isInStore.1 ∈ gtb := (gk_7 (List.mem_of_getElem? (i := 151) rfl) rfl)
set_option maxRecDepth 100000 in
theorem mv_Mod_isInStore : Cond.selects y_Mod_isInStore.1.cls y_Mod_isInStore.1 y_Mod_isInStore.1 ∈ gtb := gtb_of (List.mem_append_left _ (List.mem_of_getElem? (i := 88) rfl)) rfl
set_option maxRecDepth 100000 in
theorem ms_Mod_isLetter : Cond.static y_Mod_isLetter.1 ∈ gtb := (gk_6 (List.mem_of_getElem? (i := 206) rfl) rfl)
set_option maxRecDepth 100000 in
theorem ms_Mod_isLong : Cond.static y_Mod_isLong.1 ∈ gtb := (gk_8 (List.mem_of_getElem? (i := 26) rfl) rfl)
set_option maxRecDepth 100000 in
theorem mi_Mod_isPot : Cond.instanceMethod y_Mod_isPot.1 ∈ gtb := (gk_7 (List.mem_of_getElem? (i := 202) rfl) rfl)
set_option maxRecDepth 100000 in
theorem mv_Mod_isPot : Cond.selects y_Mod_isPot.1.cls y_Mod_isPot.1 y_Mod_isPot.1 ∈ gtb := gtb_of (List.mem_append_left _ (List.mem_of_getElem? (i := 95) rfl)) rfl
set_option maxRecDepth 100000 in
theorem mi_Mod_isWay : Cond.instanceMethod y_Mod_isWay.1 ∈ gtb := (gk_8 (List.mem_of_getElem? (i := 50) rfl) rfl)
set_option maxRecDepth 100000 in
theorem mv_Mod_isWay : Cond.selects y_Mod_isWay.1.cls y_Mod_isWay.1 y_Mod_isWay.1 ∈ gtb := gtb_of (List.mem_append_left _ (List.mem_of_getElem? (i := 101) rfl)) rfl
set_option maxRecDepth 100000 in
theorem mi_Mod_keepsRow : Cond.instanceMethod y_Mod_keepsRow.1 ∈ gtb := (gk_5 (List.mem_of_getElem? (i := 202) rfl) rfl)
set_option maxRecDepth 100000 in
theorem mv_Mod_keepsRow : Cond.selects y_Mod_keepsRow.1.cls y_Mod_keepsRow.1 y_Mod_keepsRow.1 ∈ gtb := gtb_of (List.mem_append_left _ (List.mem_of_getElem? (i := 47) rfl)) rfl
set_option maxRecDepth 100000 in
theorem mi_Mod_knownFood : Cond.instanceMethod y_Mod_knownFood.1 ∈ gtb := (gk_7 (List.mem_of_getElem? (i := 25) rfl) rfl)
set_option maxRecDepth 100000 in
theorem mv_Mod_knownFood : Cond.selects y_Mod_knownFood.1.cls y_Mod_knownFood.1 y_Mod_knownFood.1 ∈ gtb := gtb_of (List.mem_append_left _ (List.mem_of_getElem? (i := 65) rfl)) rfl
set_option maxRecDepth 100000 in
theorem mi_Mod_lawTells : Cond.instanceMethod y_Mod_lawTells.1 ∈ gtb := (gk_7 (List.mem_of_getElem? (i := 104) rfl) rfl)
set_option maxRecDepth 100000 in
theorem mv_Mod_lawTells : Cond.selects y_Mod_lawTells.1.cls y_Mod_lawTells.1 y_Mod_lawTells.1 ∈ gtb := gtb_of (List.mem_append_left _ (List.mem_of_getElem? (i := 81) rfl)) rfl
set_option maxRecDepth 100000 in
theorem mi_Mod_looks : Cond.instanceMethod y_Mod_looks.1 ∈ gtb := (gk_7 (List.mem_of_getElem? (i := 96) rfl) rfl)
set_option maxRecDepth 100000 in
theorem mv_Mod_looks : Cond.selects y_Mod_looks.1.cls y_Mod_looks.1 y_Mod_looks.1 ∈ gtb := gtb_of (List.mem_append_left _ (List.mem_of_getElem? (i := 79) rfl)) rfl
set_option maxRecDepth 100000 in
theorem mi_Mod_lotOf : Cond.instanceMethod y_Mod_lotOf.1 ∈ gtb := (gk_7 (List.mem_of_getElem? (i := 159) rfl) rfl)
set_option maxRecDepth 100000 in
theorem mv_Mod_lotOf : Cond.selects y_Mod_lotOf.1.cls y_Mod_lotOf.1 y_Mod_lotOf.1 ∈ gtb := gtb_of (List.mem_append_left _ (List.mem_of_getElem? (i := 90) rfl)) rfl
set_option maxRecDepth 100000 in
theorem mi_Mod_mealsBy : Cond.instanceMethod y_Mod_mealsBy.1 ∈ gtb := (gk_8 (List.mem_of_getElem? (i := 11) rfl) rfl)
set_option maxRecDepth 100000 in
theorem mv_Mod_mealsBy : Cond.selects y_Mod_mealsBy.1.cls y_Mod_mealsBy.1 y_Mod_mealsBy.1 ∈ gtb := gtb_of (List.mem_append_left _ (List.mem_of_getElem? (i := 100) rfl)) rfl
set_option maxRecDepth 100000 in
theorem ms_Mod_mixed : Cond.static y_Mod_mixed.1 ∈ gtb := (gk_7 (List.mem_of_getElem? (i := 162) rfl) rfl)
set_option maxRecDepth 100000 in
theorem mi_Mod_must : Cond.instanceMethod y_Mod_must.1 ∈ gtb := (gk_7 (List.mem_of_getElem? (i := 5) rfl) rfl)
set_option maxRecDepth 100000 in
theorem mv_Mod_must : Cond.selects y_Mod_must.1.cls y_Mod_must.1 y_Mod_must.1 ∈ gtb := gtb_of (List.mem_append_left _ (List.mem_of_getElem? (i := 60) rfl)) rfl
set_option maxRecDepth 100000 in
theorem mi_Mod_named : Cond.instanceMethod y_Mod_named.1 ∈ gtb := (gk_7 (List.mem_of_getElem? (i := 1) rfl) rfl)
set_option maxRecDepth 100000 in
theorem mv_Mod_named : Cond.selects y_Mod_named.1.cls y_Mod_named.1 y_Mod_named.1 ∈ gtb := gtb_of (List.mem_append_left _ (List.mem_of_getElem? (i := 59) rfl)) rfl
set_option maxRecDepth 100000 in
theorem ms_Mod_off : Cond.static y_Mod_off.1 ∈ gtb := (gk_7 (List.mem_of_getElem? (i := 217) rfl) rfl)
set_option maxRecDepth 100000 in
theorem mi_Mod_plain : Cond.instanceMethod y_Mod_plain.1 ∈ gtb := (gk_5 (List.mem_of_getElem? (i := 187) rfl) rfl)
set_option maxRecDepth 100000 in
theorem mv_Mod_plain : Cond.selects y_Mod_plain.1.cls y_Mod_plain.1 y_Mod_plain.1 ∈ gtb := gtb_of (List.mem_append_left _ (List.mem_of_getElem? (i := 45) rfl)) rfl
set_option maxRecDepth 100000 in
theorem mi_Mod_potAt : Cond.instanceMethod y_Mod_potAt.1 ∈ gtb := (gk_7 (List.mem_of_getElem? (i := 206) rfl) rfl)
set_option maxRecDepth 100000 in
theorem mv_Mod_potAt : Cond.selects y_Mod_potAt.1.cls y_Mod_potAt.1 y_Mod_potAt.1 ∈ gtb := gtb_of (List.mem_append_left _ (List.mem_of_getElem? (i := 96) rfl)) rfl
set_option maxRecDepth 100000 in
theorem mi_Mod_potMany : Cond.instanceMethod y_Mod_potMany.1 ∈ gtb := (gk_7 (List.mem_of_getElem? (i := 84) rfl) rfl)
set_option maxRecDepth 100000 in
theorem mv_Mod_potMany : Cond.selects y_Mod_potMany.1.cls y_Mod_potMany.1 y_Mod_potMany.1 ∈ gtb := gtb_of (List.mem_append_left _ (List.mem_of_getElem? (i := 76) rfl)) rfl
set_option maxRecDepth 100000 in
theorem mi_Mod_potPrice : Cond.instanceMethod y_Mod_potPrice.1 ∈ gtb := (gk_7 (List.mem_of_getElem? (i := 88) rfl) rfl)
set_option maxRecDepth 100000 in
theorem mv_Mod_potPrice : Cond.selects y_Mod_potPrice.1.cls y_Mod_potPrice.1 y_Mod_potPrice.1 ∈ gtb := gtb_of (List.mem_append_left _ (List.mem_of_getElem? (i := 77) rfl)) rfl
set_option maxRecDepth 100000 in
theorem mi_Mod_put : Cond.instanceMethod y_Mod_put.1 ∈ gtb := (gk_6 (List.mem_of_getElem? (i := 183) rfl) rfl)
set_option maxRecDepth 100000 in
theorem mv_Mod_put : Cond.selects y_Mod_put.1.cls y_Mod_put.1 y_Mod_put.1 ∈ gtb := gtb_of (List.mem_append_left _ (List.mem_of_getElem? (i := 48) rfl)) rfl
set_option maxRecDepth 100000 in
theorem mi_Mod_records : Cond.instanceMethod y_Mod_records.1 ∈ gtb := (gk_7 (List.mem_of_getElem? (i := 167) rfl) rfl)
set_option maxRecDepth 100000 in
theorem mv_Mod_records : Cond.selects y_Mod_records.1.cls y_Mod_records.1 y_Mod_records.1 ∈ gtb := gtb_of (List.mem_append_left _ (List.mem_of_getElem? (i := 91) rfl)) rfl
set_option maxRecDepth 100000 in
theorem mi_Mod_roomFor : Cond.instanceMethod y_Mod_roomFor.1 ∈ gtb := (gk_6 (List.mem_of_getElem? (i := 225) rfl) rfl)
set_option maxRecDepth 100000 in
theorem mv_Mod_roomFor : Cond.selects y_Mod_roomFor.1.cls y_Mod_roomFor.1 y_Mod_roomFor.1 ∈ gtb := gtb_of (List.mem_append_left _ (List.mem_of_getElem? (i := 55) rfl)) rfl
set_option maxRecDepth 100000 in
theorem ms_Mod_sevens : Cond.static y_Mod_sevens.1 ∈ gtb := (gk_7 (List.mem_of_getElem? (i := 198) rfl) rfl)
set_option maxRecDepth 100000 in
theorem mi_Mod_sign : Cond.instanceMethod y_Mod_sign.1 ∈ gtb := (gk_6 (List.mem_of_getElem? (i := 213) rfl) rfl)
set_option maxRecDepth 100000 in
theorem mv_Mod_sign : Cond.selects y_Mod_sign.1.cls y_Mod_sign.1 y_Mod_sign.1 ∈ gtb := gtb_of (List.mem_append_left _ (List.mem_of_getElem? (i := 52) rfl)) rfl
set_option maxRecDepth 100000 in
theorem ms_Mod_sixes : Cond.static y_Mod_sixes.1 ∈ gtb := (gk_8 (List.mem_of_getElem? (i := 7) rfl) rfl)
set_option maxRecDepth 100000 in
theorem mi_Mod_tellDish : Cond.instanceMethod y_Mod_tellDish.1 ∈ gtb := (gk_7 (List.mem_of_getElem? (i := 21) rfl) rfl)
set_option maxRecDepth 100000 in
theorem mv_Mod_tellDish : Cond.selects y_Mod_tellDish.1.cls y_Mod_tellDish.1 y_Mod_tellDish.1 ∈ gtb := gtb_of (List.mem_append_left _ (List.mem_of_getElem? (i := 64) rfl)) rfl
set_option maxRecDepth 100000 in
theorem mi_Mod_tellFood : Cond.instanceMethod y_Mod_tellFood.1 ∈ gtb := (gk_6 (List.mem_of_getElem? (i := 237) rfl) rfl)
set_option maxRecDepth 100000 in
theorem mv_Mod_tellFood : Cond.selects y_Mod_tellFood.1.cls y_Mod_tellFood.1 y_Mod_tellFood.1 ∈ gtb := gtb_of (List.mem_append_left _ (List.mem_of_getElem? (i := 58) rfl)) rfl
set_option maxRecDepth 100000 in
theorem mi_Mod_tellLaw : Cond.instanceMethod y_Mod_tellLaw.1 ∈ gtb := (gk_7 (List.mem_of_getElem? (i := 29) rfl) rfl)
set_option maxRecDepth 100000 in
theorem mv_Mod_tellLaw : Cond.selects y_Mod_tellLaw.1.cls y_Mod_tellLaw.1 y_Mod_tellLaw.1 ∈ gtb := gtb_of (List.mem_append_left _ (List.mem_of_getElem? (i := 66) rfl)) rfl
set_option maxRecDepth 100000 in
theorem mi_Mod_tellOne : Cond.instanceMethod y_Mod_tellOne.1 ∈ gtb := (gk_6 (List.mem_of_getElem? (i := 221) rfl) rfl)
set_option maxRecDepth 100000 in
theorem mv_Mod_tellOne : Cond.selects y_Mod_tellOne.1.cls y_Mod_tellOne.1 y_Mod_tellOne.1 ∈ gtb := gtb_of (List.mem_append_left _ (List.mem_of_getElem? (i := 54) rfl)) rfl
set_option maxRecDepth 100000 in
theorem mi_Mod_term : Cond.instanceMethod y_Mod_term.1 ∈ gtb := (gk_7 (List.mem_of_getElem? (i := 49) rfl) rfl)
set_option maxRecDepth 100000 in
theorem mv_Mod_term : Cond.selects y_Mod_term.1.cls y_Mod_term.1 y_Mod_term.1 ∈ gtb := gtb_of (List.mem_append_left _ (List.mem_of_getElem? (i := 71) rfl)) rfl
set_option maxRecDepth 100000 in
theorem mi_Mod_termOf : Cond.instanceMethod y_Mod_termOf.1 ∈ gtb := (gk_7 (List.mem_of_getElem? (i := 108) rfl) rfl)
set_option maxRecDepth 100000 in
theorem mv_Mod_termOf : Cond.selects y_Mod_termOf.1.cls y_Mod_termOf.1 y_Mod_termOf.1 ∈ gtb := gtb_of (List.mem_append_left _ (List.mem_of_getElem? (i := 82) rfl)) rfl
set_option maxRecDepth 100000 in
theorem mi_Mod_token : Cond.instanceMethod y_Mod_token.1 ∈ gtb := (gk_6 (List.mem_of_getElem? (i := 203) rfl) rfl)
set_option maxRecDepth 100000 in
theorem mv_Mod_token : Cond.selects y_Mod_token.1.cls y_Mod_token.1 y_Mod_token.1 ∈ gtb := gtb_of (List.mem_append_left _ (List.mem_of_getElem? (i := 51) rfl)) rfl
set_option maxRecDepth 100000 in
theorem mi_Mod_unit : Cond.instanceMethod y_Mod_unit.1 ∈ gtb := (gk_7 (List.mem_of_getElem? (i := 37) rfl) rfl)
set_option maxRecDepth 100000 in
theorem mv_Mod_unit : Cond.selects y_Mod_unit.1.cls y_Mod_unit.1 y_Mod_unit.1 ∈ gtb := gtb_of (List.mem_append_left _ (List.mem_of_getElem? (i := 68) rfl)) rfl
set_option maxRecDepth 100000 in
theorem ms_Mod_word : Cond.static y_Mod_word.1 ∈ gtb := (gk_5 (List.mem_of_getElem? (i := 190) rfl) rfl)
set_option maxRecDepth 100000 in
theorem mi_Mod_wrong : Cond.instanceMethod y_Mod_wrong.1 ∈ gtb := (gk_7 (List.mem_of_getElem? (i := 9) rfl) rfl)
set_option maxRecDepth 100000 in
theorem mv_Mod_wrong : Cond.selects y_Mod_wrong.1.cls y_Mod_wrong.1 y_Mod_wrong.1 ∈ gtb := gtb_of (List.mem_append_left _ (List.mem_of_getElem? (i := 61) rfl)) rfl
set_option maxRecDepth 100000 in
theorem ms_Int_bitCount : Cond.static y_Int_bitCount.1 ∈ gtb := (gk_5 (List.mem_of_getElem? (i := 15) rfl) rfl)
set_option maxRecDepth 100000 in
theorem ml_Main_3 : Cond.methodLink "CookedLaw" 3 Lib.objectInit ∈ gtb := (gk_1 (List.mem_of_getElem? (i := 25) rfl) rfl)
set_option maxRecDepth 100000 in
theorem mm_Main_238 : Cond.methodLink "CookedLaw" 238 Lib.Math.abs.name ∈ gtb ∧ Cond.static Lib.Math.abs.name ∈ gtb ∧ Cond.initialized "java/lang/Math" ∈ gtb ∧ Cond.code Lib.Math.abs.name Lib.Math.abs.code 1 (some .int) ∈ gtb := ⟨(gk_4 (List.mem_of_getElem? (i := 231) rfl) rfl), (gk_4 (List.mem_of_getElem? (i := 232) rfl) rfl), (gk_1 (List.mem_of_getElem? (i := 18) rfl) rfl), (gk_4 (List.mem_of_getElem? (i := 233) rfl) rfl)⟩
set_option maxRecDepth 100000 in
theorem mm_Main_313 : Cond.methodLink "CookedLaw" 313 Lib.Math.min.name ∈ gtb ∧ Cond.static Lib.Math.min.name ∈ gtb ∧ Cond.initialized "java/lang/Math" ∈ gtb ∧ Cond.code Lib.Math.min.name Lib.Math.min.code 2 (some .int) ∈ gtb := ⟨(gk_4 (List.mem_of_getElem? (i := 48) rfl) rfl), (gk_4 (List.mem_of_getElem? (i := 49) rfl) rfl), (gk_1 (List.mem_of_getElem? (i := 18) rfl) rfl), (gk_4 (List.mem_of_getElem? (i := 50) rfl) rfl)⟩
set_option maxRecDepth 100000 in
theorem mm_Main_316 : Cond.methodLink "CookedLaw" 316 Lib.Math.max.name ∈ gtb ∧ Cond.static Lib.Math.max.name ∈ gtb ∧ Cond.initialized "java/lang/Math" ∈ gtb ∧ Cond.code Lib.Math.max.name Lib.Math.max.code 2 (some .int) ∈ gtb := ⟨(gk_4 (List.mem_of_getElem? (i := 51) rfl) rfl), (gk_4 (List.mem_of_getElem? (i := 52) rfl) rfl), (gk_1 (List.mem_of_getElem? (i := 18) rfl) rfl), (gk_4 (List.mem_of_getElem? (i := 53) rfl) rfl)⟩
set_option maxRecDepth 100000 in
theorem ml_Land_3 : Cond.methodLink "CookedLaw$Land" 3 Lib.objectInit ∈ gtb := (gk_1 (List.mem_of_getElem? (i := 168) rfl) rfl)
set_option maxRecDepth 100000 in
theorem ml_Law_5 : Cond.methodLink "CookedLaw$Law" 5 Lib.objectInit ∈ gtb := (gk_1 (List.mem_of_getElem? (i := 174) rfl) rfl)
set_option maxRecDepth 100000 in
theorem ml_MenuSearch_3 : Cond.methodLink "CookedLaw$MenuSearch" 3 Lib.objectInit ∈ gtb := (gk_2 (List.mem_of_getElem? (i := 205) rfl) rfl)
set_option maxRecDepth 100000 in
theorem ml_Past_3 : Cond.methodLink "CookedLaw$Past" 3 Lib.objectInit ∈ gtb := (gk_2 (List.mem_of_getElem? (i := 91) rfl) rfl)
set_option maxRecDepth 100000 in
theorem mm_Past_29 : Cond.methodLink "CookedLaw$Past" 29 Lib.Math.min.name ∈ gtb ∧ Cond.static Lib.Math.min.name ∈ gtb ∧ Cond.initialized "java/lang/Math" ∈ gtb ∧ Cond.code Lib.Math.min.name Lib.Math.min.code 2 (some .int) ∈ gtb := ⟨(gk_4 (List.mem_of_getElem? (i := 133) rfl) rfl), (gk_4 (List.mem_of_getElem? (i := 49) rfl) rfl), (gk_1 (List.mem_of_getElem? (i := 18) rfl) rfl), (gk_4 (List.mem_of_getElem? (i := 50) rfl) rfl)⟩
set_option maxRecDepth 100000 in
theorem ml_PotSearch_3 : Cond.methodLink "CookedLaw$PotSearch" 3 Lib.objectInit ∈ gtb := (gk_2 (List.mem_of_getElem? (i := 162) rfl) rfl)
set_option maxRecDepth 100000 in
theorem mm_PotSearch_79 : Cond.methodLink "CookedLaw$PotSearch" 79 Lib.Math.min.name ∈ gtb ∧ Cond.static Lib.Math.min.name ∈ gtb ∧ Cond.initialized "java/lang/Math" ∈ gtb ∧ Cond.code Lib.Math.min.name Lib.Math.min.code 2 (some .int) ∈ gtb := ⟨(gk_4 (List.mem_of_getElem? (i := 202) rfl) rfl), (gk_4 (List.mem_of_getElem? (i := 49) rfl) rfl), (gk_1 (List.mem_of_getElem? (i := 18) rfl) rfl), (gk_4 (List.mem_of_getElem? (i := 50) rfl) rfl)⟩
set_option maxRecDepth 100000 in
theorem ml_Reader_3 : Cond.methodLink "CookedLaw$Reader" 3 Lib.objectInit ∈ gtb := (gk_1 (List.mem_of_getElem? (i := 49) rfl) rfl)
set_option maxRecDepth 100000 in
theorem ml_Slots_3 : Cond.methodLink "CookedLaw$Slots" 3 Lib.objectInit ∈ gtb := (gk_2 (List.mem_of_getElem? (i := 111) rfl) rfl)
set_option maxRecDepth 100000 in
theorem ml_State_3 : Cond.methodLink "CookedLaw$State" 3 Lib.objectInit ∈ gtb := (gk_2 (List.mem_of_getElem? (i := 43) rfl) rfl)
set_option maxRecDepth 100000 in
theorem ml_Tape_3 : Cond.methodLink "CookedLaw$Tape" 3 Lib.objectInit ∈ gtb := (gk_1 (List.mem_of_getElem? (i := 33) rfl) rfl)
set_option maxRecDepth 100000 in
theorem ml_Tokens_3 : Cond.methodLink "CookedLaw$Tokens" 3 Lib.objectInit ∈ gtb := (gk_1 (List.mem_of_getElem? (i := 55) rfl) rfl)
set_option maxRecDepth 100000 in
theorem ml_Told_5 : Cond.methodLink "CookedLaw$Told" 5 Lib.objectInit ∈ gtb := (gk_2 (List.mem_of_getElem? (i := 126) rfl) rfl)
set_option maxRecDepth 100000 in
theorem mm_Told_93 : Cond.methodLink "CookedLaw$Told" 93 Lib.Math.max.name ∈ gtb ∧ Cond.static Lib.Math.max.name ∈ gtb ∧ Cond.initialized "java/lang/Math" ∈ gtb ∧ Cond.code Lib.Math.max.name Lib.Math.max.code 2 (some .int) ∈ gtb := ⟨(gk_5 (List.mem_of_getElem? (i := 147) rfl) rfl), (gk_4 (List.mem_of_getElem? (i := 52) rfl) rfl), (gk_1 (List.mem_of_getElem? (i := 18) rfl) rfl), (gk_4 (List.mem_of_getElem? (i := 53) rfl) rfl)⟩
set_option maxRecDepth 100000 in
theorem ml_Mod_7 : Cond.methodLink "CookedLawModel" 7 Lib.objectInit ∈ gtb := (gk_5 (List.mem_of_getElem? (i := 184) rfl) rfl)
set_option maxRecDepth 100000 in
theorem mi_objectInit : Cond.instanceMethod Lib.objectInit ∈ gtb := (gk_1 (List.mem_of_getElem? (i := 26) rfl) rfl)
set_option maxRecDepth 100000 in
theorem mc_objectInit : Cond.code Lib.objectInit ⟨#[0xb1]⟩ 1 none ∈ gtb := (gk_1 (List.mem_of_getElem? (i := 27) rfl) rfl)
set_option maxRecDepth 100000 in
theorem co_Land_133 : Cond.constant "CookedLaw$Land" 133 1103515245 ∈ gtb := (gk_4 (List.mem_of_getElem? (i := 148) rfl) rfl)
set_option maxRecDepth 100000 in
theorem co_Tokens_41 : Cond.constantLong "CookedLaw$Tokens" 41 32 ∈ gtb := (gk_1 (List.mem_of_getElem? (i := 108) rfl) rfl)
set_option maxRecDepth 100000 in
theorem co_Tokens_85 : Cond.constantLong "CookedLaw$Tokens" 85 10 ∈ gtb := (gk_3 (List.mem_of_getElem? (i := 79) rfl) rfl)
set_option maxRecDepth 100000 in
theorem co_Mod_178 : Cond.constantLong "CookedLawModel" 178 27 ∈ gtb := (gk_5 (List.mem_of_getElem? (i := 195) rfl) rfl)
set_option maxRecDepth 100000 in
theorem co_Mod_323 : Cond.constant "CookedLawModel" 323 1103515245 ∈ gtb := (gk_7 (List.mem_of_getElem? (i := 164) rfl) rfl)
set_option maxRecDepth 100000 in
theorem co_Int_265 : Cond.constant "java/lang/Integer" 265 1431655765 ∈ gtb := (gk_5 (List.mem_of_getElem? (i := 17) rfl) rfl)
set_option maxRecDepth 100000 in
theorem co_Int_266 : Cond.constant "java/lang/Integer" 266 858993459 ∈ gtb := (gk_5 (List.mem_of_getElem? (i := 18) rfl) rfl)
set_option maxRecDepth 100000 in
theorem co_Int_267 : Cond.constant "java/lang/Integer" 267 252645135 ∈ gtb := (gk_5 (List.mem_of_getElem? (i := 19) rfl) rfl)
set_option maxRecDepth 100000 in
theorem ck_Main_9 : Cond.classLink "CookedLaw" 9 "CookedLaw$Tape" ∈ gtb := (gk_1 (List.mem_of_getElem? (i := 28) rfl) rfl)
set_option maxRecDepth 100000 in
theorem ck_Main_16 : Cond.classLink "CookedLaw" 16 "CookedLaw$Reader" ∈ gtb := (gk_1 (List.mem_of_getElem? (i := 44) rfl) rfl)
set_option maxRecDepth 100000 in
theorem ck_Main_23 : Cond.classLink "CookedLaw" 23 "CookedLaw$Land" ∈ gtb := (gk_1 (List.mem_of_getElem? (i := 163) rfl) rfl)
set_option maxRecDepth 100000 in
theorem ck_Main_33 : Cond.classLink "CookedLaw" 33 "CookedLaw$State" ∈ gtb := (gk_2 (List.mem_of_getElem? (i := 38) rfl) rfl)
set_option maxRecDepth 100000 in
theorem ck_Main_43 : Cond.classLink "CookedLaw" 43 "CookedLaw$Past" ∈ gtb := (gk_2 (List.mem_of_getElem? (i := 86) rfl) rfl)
set_option maxRecDepth 100000 in
theorem ck_Main_50 : Cond.classLink "CookedLaw" 50 "CookedLaw$Slots" ∈ gtb := (gk_2 (List.mem_of_getElem? (i := 106) rfl) rfl)
set_option maxRecDepth 100000 in
theorem ck_Main_57 : Cond.classLink "CookedLaw" 57 "CookedLaw$Told" ∈ gtb := (gk_2 (List.mem_of_getElem? (i := 121) rfl) rfl)
set_option maxRecDepth 100000 in
theorem ck_Main_64 : Cond.classLink "CookedLaw" 64 "CookedLaw$PotSearch" ∈ gtb := (gk_2 (List.mem_of_getElem? (i := 157) rfl) rfl)
set_option maxRecDepth 100000 in
theorem ck_Main_71 : Cond.classLink "CookedLaw" 71 "CookedLaw$MenuSearch" ∈ gtb := (gk_2 (List.mem_of_getElem? (i := 200) rfl) rfl)
set_option maxRecDepth 100000 in
theorem ck_Land_36 : Cond.classLink "CookedLaw$Land" 36 "CookedLaw$Law" ∈ gtb := (gk_1 (List.mem_of_getElem? (i := 169) rfl) rfl)
set_option maxRecDepth 100000 in
theorem ck_Past_9 : Cond.classLink "CookedLaw$Past" 9 "CookedLaw$State" ∈ gtb := (gk_2 (List.mem_of_getElem? (i := 92) rfl) rfl)
set_option maxRecDepth 100000 in
theorem ck_Reader_9 : Cond.classLink "CookedLaw$Reader" 9 "CookedLaw$Tokens" ∈ gtb := (gk_1 (List.mem_of_getElem? (i := 50) rfl) rfl)
set_option maxRecDepth 100000 in
theorem ck_Slots_9 : Cond.classLink "CookedLaw$Slots" 9 "CookedLaw$State" ∈ gtb := (gk_2 (List.mem_of_getElem? (i := 112) rfl) rfl)
set_option maxRecDepth 100000 in
theorem ck_Law0_7 : Cond.classLink "CookedLawLaw" 7 "CookedLaw" ∈ gtb := (gk_1 (List.mem_of_getElem? (i := 20) rfl) rfl)
set_option maxRecDepth 100000 in
theorem ck_Law0_10 : Cond.classLink "CookedLawLaw" 10 "CookedLawModel" ∈ gtb := (gk_5 (List.mem_of_getElem? (i := 179) rfl) rfl)
set_option maxRecDepth 100000 in
theorem cn_Main : Cond.instantiable "CookedLaw" 12 ∈ gtb := (gk_1 (List.mem_of_getElem? (i := 21) rfl) rfl)
set_option maxRecDepth 100000 in
theorem cn_Tape : Cond.instantiable "CookedLaw$Tape" 2 ∈ gtb := (gk_1 (List.mem_of_getElem? (i := 29) rfl) rfl)
set_option maxRecDepth 100000 in
theorem cn_Reader : Cond.instantiable "CookedLaw$Reader" 12 ∈ gtb := (gk_1 (List.mem_of_getElem? (i := 45) rfl) rfl)
set_option maxRecDepth 100000 in
theorem cn_Tokens : Cond.instantiable "CookedLaw$Tokens" 4 ∈ gtb := (gk_1 (List.mem_of_getElem? (i := 51) rfl) rfl)
set_option maxRecDepth 100000 in
theorem cn_Land : Cond.instantiable "CookedLaw$Land" 18 ∈ gtb := (gk_1 (List.mem_of_getElem? (i := 164) rfl) rfl)
set_option maxRecDepth 100000 in
theorem cn_Law : Cond.instantiable "CookedLaw$Law" 4 ∈ gtb := (gk_1 (List.mem_of_getElem? (i := 170) rfl) rfl)
set_option maxRecDepth 100000 in
theorem cn_State : Cond.instantiable "CookedLaw$State" 10 ∈ gtb := (gk_2 (List.mem_of_getElem? (i := 39) rfl) rfl)
set_option maxRecDepth 100000 in
theorem cn_Past : Cond.instantiable "CookedLaw$Past" 3 ∈ gtb := (gk_2 (List.mem_of_getElem? (i := 87) rfl) rfl)
set_option maxRecDepth 100000 in
theorem cn_Slots : Cond.instantiable "CookedLaw$Slots" 2 ∈ gtb := (gk_2 (List.mem_of_getElem? (i := 107) rfl) rfl)
set_option maxRecDepth 100000 in
theorem cn_Told : Cond.instantiable "CookedLaw$Told" 9 ∈ gtb := (gk_2 (List.mem_of_getElem? (i := 122) rfl) rfl)
set_option maxRecDepth 100000 in
theorem cn_PotSearch : Cond.instantiable "CookedLaw$PotSearch" 11 ∈ gtb := (gk_2 (List.mem_of_getElem? (i := 158) rfl) rfl)
set_option maxRecDepth 100000 in
theorem cn_MenuSearch : Cond.instantiable "CookedLaw$MenuSearch" 5 ∈ gtb := (gk_2 (List.mem_of_getElem? (i := 201) rfl) rfl)
set_option maxRecDepth 100000 in
theorem cn_Mod : Cond.instantiable "CookedLawModel" 71 ∈ gtb := (gk_5 (List.mem_of_getElem? (i := 180) rfl) rfl)
set_option maxRecDepth 100000 in
theorem ca_int : Cond.arrayClass .int ∈ gtb := (gk_1 (List.mem_of_getElem? (i := 43) rfl) rfl)
set_option maxRecDepth 100000 in
theorem ca_byte : Cond.arrayClass .byte ∈ gtb := (gk_1 (List.mem_of_getElem? (i := 125) rfl) rfl)
set_option maxRecDepth 100000 in
theorem ca_boolean : Cond.arrayClass .boolean ∈ gtb := (gk_2 (List.mem_of_getElem? (i := 224) rfl) rfl)
set_option maxRecDepth 100000 in
theorem ca_long : Cond.arrayClass .long ∈ gtb := (gk_1 (List.mem_of_getElem? (i := 124) rfl) rfl)
