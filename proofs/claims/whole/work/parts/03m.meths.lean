def mX0_clear : g_Y := (yX0_clear, cX0_clear, 1, none)
set_option maxRecDepth 100000 in
theorem kX0_clear : Cond.code yX0_clear cX0_clear 1 none ∈ g_T := g_in 601 rfl rfl
theorem dX0_clear : g_MdV mX0_clear 0 := ⟨g_in 599 (by decide +kernel) rfl, g_in 600 (by decide +kernel) rfl, g_in 117 (by decide +kernel) rfl, kX0_clear, ⟨by decide +kernel, by decide +kernel, by decide +kernel⟩⟩
def mX0_images : g_Y := (yX0_images, cX0_images, 1, (some .int))
set_option maxRecDepth 100000 in
theorem kX0_images : Cond.code yX0_images cX0_images 1 (some .int) ∈ g_T := g_in 1067 rfl rfl
theorem dX0_images : g_MdV mX0_images 0 := ⟨g_in 1065 (by decide +kernel) rfl, g_in 1066 (by decide +kernel) rfl, g_in 117 (by decide +kernel) rfl, kX0_images, ⟨by decide +kernel, by decide +kernel, by decide +kernel⟩⟩
def mX0_init : g_Y := (yX0_init, cX0_init, 2, none)
set_option maxRecDepth 100000 in
theorem kX0_init : Cond.code yX0_init cX0_init 2 none ∈ g_T := g_in 308 rfl rfl
theorem dX0_init : g_MdI mX0_init 0 := ⟨g_in 307 (by decide +kernel) rfl, rfl, rfl, g_in 117 (by decide +kernel) rfl, kX0_init, ⟨by decide +kernel, by decide +kernel, by decide +kernel⟩⟩
def mX0_keepImage : g_Y := (yX0_keepImage, cX0_keepImage, 2, (some .int))
set_option maxRecDepth 100000 in
theorem kX0_keepImage : Cond.code yX0_keepImage cX0_keepImage 2 (some .int) ∈ g_T := g_in 1047 rfl rfl
theorem dX0_keepImage : g_MdV mX0_keepImage 1 := ⟨g_in 1045 (by decide +kernel) rfl, g_in 1046 (by decide +kernel) rfl, g_in 117 (by decide +kernel) rfl, kX0_keepImage, ⟨by decide +kernel, by decide +kernel, by decide +kernel⟩⟩
def mX0_remember : g_Y := (yX0_remember, cX0_remember, 2, none)
set_option maxRecDepth 100000 in
theorem kX0_remember : Cond.code yX0_remember cX0_remember 2 none ∈ g_T := g_in 1000 rfl rfl
theorem dX0_remember : g_MdV mX0_remember 1 := ⟨g_in 998 (by decide +kernel) rfl, g_in 999 (by decide +kernel) rfl, g_in 117 (by decide +kernel) rfl, kX0_remember, ⟨by decide +kernel, by decide +kernel, by decide +kernel⟩⟩
def mX0_returnTo : g_Y := (yX0_returnTo, cX0_returnTo, 3, (some .boolean))
set_option maxRecDepth 100000 in
theorem kX0_returnTo : Cond.code yX0_returnTo cX0_returnTo 3 (some .boolean) ∈ g_T := g_in 1055 rfl rfl
theorem dX0_returnTo : g_MdV mX0_returnTo 2 := ⟨g_in 1053 (by decide +kernel) rfl, g_in 1054 (by decide +kernel) rfl, g_in 117 (by decide +kernel) rfl, kX0_returnTo, ⟨by decide +kernel, by decide +kernel, by decide +kernel⟩⟩
def mX0_takeBack : g_Y := (yX0_takeBack, cX0_takeBack, 2, (some .boolean))
set_option maxRecDepth 100000 in
theorem kX0_takeBack : Cond.code yX0_takeBack cX0_takeBack 2 (some .boolean) ∈ g_T := g_in 1039 rfl rfl
theorem dX0_takeBack : g_MdV mX0_takeBack 1 := ⟨g_in 1037 (by decide +kernel) rfl, g_in 1038 (by decide +kernel) rfl, g_in 117 (by decide +kernel) rfl, kX0_takeBack, ⟨by decide +kernel, by decide +kernel, by decide +kernel⟩⟩
def mX0_undoable : g_Y := (yX0_undoable, cX0_undoable, 1, (some .int))
set_option maxRecDepth 100000 in
theorem kX0_undoable : Cond.code yX0_undoable cX0_undoable 1 (some .int) ∈ g_T := g_in 1063 rfl rfl
theorem dX0_undoable : g_MdV mX0_undoable 0 := ⟨g_in 1061 (by decide +kernel) rfl, g_in 1062 (by decide +kernel) rfl, g_in 117 (by decide +kernel) rfl, kX0_undoable, ⟨by decide +kernel, by decide +kernel, by decide +kernel⟩⟩
def mX1_entryHere : g_Y := (yX1_entryHere, cX1_entryHere, 2, (some .int))
set_option maxRecDepth 100000 in
theorem kX1_entryHere : Cond.code yX1_entryHere cX1_entryHere 2 (some .int) ∈ g_T := g_in 521 rfl rfl
theorem dX1_entryHere : g_MdV mX1_entryHere 0 := ⟨g_in 520 (by decide +kernel) rfl, g_in 19 (by decide +kernel) rfl, g_in 115 (by decide +kernel) rfl, kX1_entryHere, ⟨by decide +kernel, by decide +kernel, by decide +kernel⟩⟩
def mX1_fail : g_Y := (yX1_fail, cX1_fail, 2, (some .boolean))
set_option maxRecDepth 100000 in
theorem kX1_fail : Cond.code yX1_fail cX1_fail 2 (some .boolean) ∈ g_T := g_in 466 rfl rfl
theorem dX1_fail : g_MdV mX1_fail 1 := ⟨g_in 465 (by decide +kernel) rfl, g_in 7 (by decide +kernel) rfl, g_in 115 (by decide +kernel) rfl, kX1_fail, ⟨by decide +kernel, by decide +kernel, by decide +kernel⟩⟩
def mX1_faultMet : g_Y := (yX1_faultMet, cX1_faultMet, 1, (some .int))
set_option maxRecDepth 100000 in
theorem kX1_faultMet : Cond.code yX1_faultMet cX1_faultMet 1 (some .int) ∈ g_T := g_in 670 rfl rfl
theorem dX1_faultMet : g_MdV mX1_faultMet 0 := ⟨g_in 668 (by decide +kernel) rfl, g_in 669 (by decide +kernel) rfl, g_in 115 (by decide +kernel) rfl, kX1_faultMet, ⟨by decide +kernel, by decide +kernel, by decide +kernel⟩⟩
def mX1_faultPlace : g_Y := (yX1_faultPlace, cX1_faultPlace, 1, (some .int))
set_option maxRecDepth 100000 in
theorem kX1_faultPlace : Cond.code yX1_faultPlace cX1_faultPlace 1 (some .int) ∈ g_T := g_in 678 rfl rfl
theorem dX1_faultPlace : g_MdV mX1_faultPlace 0 := ⟨g_in 676 (by decide +kernel) rfl, g_in 677 (by decide +kernel) rfl, g_in 115 (by decide +kernel) rfl, kX1_faultPlace, ⟨by decide +kernel, by decide +kernel, by decide +kernel⟩⟩
def mX1_fed : g_Y := (yX1_fed, cX1_fed, 1, (some .int))
set_option maxRecDepth 100000 in
theorem kX1_fed : Cond.code yX1_fed cX1_fed 1 (some .int) ∈ g_T := g_in 408 rfl rfl
theorem dX1_fed : g_MdV mX1_fed 0 := ⟨g_in 406 (by decide +kernel) rfl, g_in 407 (by decide +kernel) rfl, g_in 115 (by decide +kernel) rfl, kX1_fed, ⟨by decide +kernel, by decide +kernel, by decide +kernel⟩⟩
def mX1_findEntry : g_Y := (yX1_findEntry, cX1_findEntry, 2, (some .int))
set_option maxRecDepth 100000 in
theorem kX1_findEntry : Cond.code yX1_findEntry cX1_findEntry 2 (some .int) ∈ g_T := g_in 504 rfl rfl
theorem dX1_findEntry : g_MdV mX1_findEntry 0 := ⟨g_in 503 (by decide +kernel) rfl, g_in 16 (by decide +kernel) rfl, g_in 115 (by decide +kernel) rfl, kX1_findEntry, ⟨by decide +kernel, by decide +kernel, by decide +kernel⟩⟩
def mX1_findSpeaker : g_Y := (yX1_findSpeaker, cX1_findSpeaker, 2, (some .int))
set_option maxRecDepth 100000 in
theorem kX1_findSpeaker : Cond.code yX1_findSpeaker cX1_findSpeaker 2 (some .int) ∈ g_T := g_in 508 rfl rfl
theorem dX1_findSpeaker : g_MdV mX1_findSpeaker 0 := ⟨g_in 507 (by decide +kernel) rfl, g_in 17 (by decide +kernel) rfl, g_in 115 (by decide +kernel) rfl, kX1_findSpeaker, ⟨by decide +kernel, by decide +kernel, by decide +kernel⟩⟩
def mX1_hasRoom : g_Y := (yX1_hasRoom, cX1_hasRoom, 2, (some .boolean))
set_option maxRecDepth 100000 in
theorem kX1_hasRoom : Cond.code yX1_hasRoom cX1_hasRoom 2 (some .boolean) ∈ g_T := g_in 399 rfl rfl
theorem dX1_hasRoom : g_MdV mX1_hasRoom 1 := ⟨g_in 397 (by decide +kernel) rfl, g_in 398 (by decide +kernel) rfl, g_in 115 (by decide +kernel) rfl, kX1_hasRoom, ⟨by decide +kernel, by decide +kernel, by decide +kernel⟩⟩
def mX1_init : g_Y := (yX1_init, cX1_init, 2, none)
set_option maxRecDepth 100000 in
theorem kX1_init : Cond.code yX1_init cX1_init 2 none ∈ g_T := g_in 247 rfl rfl
theorem dX1_init : g_MdI mX1_init 1 := ⟨g_in 246 (by decide +kernel) rfl, rfl, rfl, g_in 115 (by decide +kernel) rfl, kX1_init, ⟨by decide +kernel, by decide +kernel, by decide +kernel⟩⟩
def mX1_isFull : g_Y := (yX1_isFull, cX1_isFull, 2, (some .boolean))
set_option maxRecDepth 100000 in
theorem kX1_isFull : Cond.code yX1_isFull cX1_isFull 2 (some .boolean) ∈ g_T := g_in 470 rfl rfl
theorem dX1_isFull : g_MdV mX1_isFull 1 := ⟨g_in 469 (by decide +kernel) rfl, g_in 8 (by decide +kernel) rfl, g_in 115 (by decide +kernel) rfl, kX1_isFull, ⟨by decide +kernel, by decide +kernel, by decide +kernel⟩⟩
def mX1_isName : g_Y := (yX1_isName, cX1_isName, 1, (some .boolean))
set_option maxRecDepth 100000 in
theorem kX1_isName : Cond.code yX1_isName cX1_isName 1 (some .boolean) ∈ g_T := g_in 500 rfl rfl
theorem dX1_isName : g_MdV mX1_isName 0 := ⟨g_in 499 (by decide +kernel) rfl, g_in 15 (by decide +kernel) rfl, g_in 115 (by decide +kernel) rfl, kX1_isName, ⟨by decide +kernel, by decide +kernel, by decide +kernel⟩⟩
def mX1_isNewName : g_Y := (yX1_isNewName, cX1_isNewName, 1, (some .boolean))
set_option maxRecDepth 100000 in
theorem kX1_isNewName : Cond.code yX1_isNewName cX1_isNewName 1 (some .boolean) ∈ g_T := g_in 496 rfl rfl
theorem dX1_isNewName : g_MdV mX1_isNewName 0 := ⟨g_in 495 (by decide +kernel) rfl, g_in 14 (by decide +kernel) rfl, g_in 115 (by decide +kernel) rfl, kX1_isNewName, ⟨by decide +kernel, by decide +kernel, by decide +kernel⟩⟩
def mX1_isWhole : g_Y := (yX1_isWhole, cX1_isWhole, 3, (some .boolean))
set_option maxRecDepth 100000 in
theorem kX1_isWhole : Cond.code yX1_isWhole cX1_isWhole 3 (some .boolean) ∈ g_T := g_in 487 rfl rfl
theorem dX1_isWhole : g_MdV mX1_isWhole 2 := ⟨g_in 486 (by decide +kernel) rfl, g_in 12 (by decide +kernel) rfl, g_in 115 (by decide +kernel) rfl, kX1_isWhole, ⟨by decide +kernel, by decide +kernel, by decide +kernel⟩⟩
def mX1_isWord : g_Y := (yX1_isWord, cX1_isWord, 3, (some .boolean))
set_option maxRecDepth 100000 in
theorem kX1_isWord : Cond.code yX1_isWord cX1_isWord 3 (some .boolean) ∈ g_T := g_in 483 rfl rfl
theorem dX1_isWord : g_MdV mX1_isWord 1 := ⟨g_in 482 (by decide +kernel) rfl, g_in 11 (by decide +kernel) rfl, g_in 115 (by decide +kernel) rfl, kX1_isWord, ⟨by decide +kernel, by decide +kernel, by decide +kernel⟩⟩
def mX1_kindHere : g_Y := (yX1_kindHere, cX1_kindHere, 1, (some .int))
set_option maxRecDepth 100000 in
theorem kX1_kindHere : Cond.code yX1_kindHere cX1_kindHere 1 (some .int) ∈ g_T := g_in 548 rfl rfl
theorem dX1_kindHere : g_MdV mX1_kindHere 0 := ⟨g_in 547 (by decide +kernel) rfl, g_in 22 (by decide +kernel) rfl, g_in 115 (by decide +kernel) rfl, kX1_kindHere, ⟨by decide +kernel, by decide +kernel, by decide +kernel⟩⟩
def mX1_lineSort : g_Y := (yX1_lineSort, cX1_lineSort, 1, (some .int))
set_option maxRecDepth 100000 in
theorem kX1_lineSort : Cond.code yX1_lineSort cX1_lineSort 1 (some .int) ∈ g_T := g_in 454 rfl rfl
theorem dX1_lineSort : g_MdV mX1_lineSort 0 := ⟨g_in 453 (by decide +kernel) rfl, g_in 6 (by decide +kernel) rfl, g_in 115 (by decide +kernel) rfl, kX1_lineSort, ⟨by decide +kernel, by decide +kernel, by decide +kernel⟩⟩
def mX1_passWord : g_Y := (yX1_passWord, cX1_passWord, 3, (some .boolean))
set_option maxRecDepth 100000 in
theorem kX1_passWord : Cond.code yX1_passWord cX1_passWord 3 (some .boolean) ∈ g_T := g_in 479 rfl rfl
theorem dX1_passWord : g_MdV mX1_passWord 1 := ⟨g_in 478 (by decide +kernel) rfl, g_in 10 (by decide +kernel) rfl, g_in 115 (by decide +kernel) rfl, kX1_passWord, ⟨by decide +kernel, by decide +kernel, by decide +kernel⟩⟩
def mX1_put : g_Y := (yX1_put, cX1_put, 2, none)
set_option maxRecDepth 100000 in
theorem kX1_put : Cond.code yX1_put cX1_put 2 none ∈ g_T := g_in 403 rfl rfl
theorem dX1_put : g_MdV mX1_put 1 := ⟨g_in 401 (by decide +kernel) rfl, g_in 402 (by decide +kernel) rfl, g_in 115 (by decide +kernel) rfl, kX1_put, ⟨by decide +kernel, by decide +kernel, by decide +kernel⟩⟩
def mX1_read : g_Y := (yX1_read, cX1_read, 4, (some .boolean))
set_option maxRecDepth 100000 in
theorem kX1_read : Cond.code yX1_read cX1_read 4 (some .boolean) ∈ g_T := g_in 420 rfl rfl
theorem dX1_read : g_MdV mX1_read 2 := ⟨g_in 418 (by decide +kernel) rfl, g_in 419 (by decide +kernel) rfl, g_in 115 (by decide +kernel) rfl, kX1_read, ⟨by decide +kernel, by decide +kernel, by decide +kernel⟩⟩
def mX1_readEntry : g_Y := (yX1_readEntry, cX1_readEntry, 3, (some .boolean))
set_option maxRecDepth 100000 in
theorem kX1_readEntry : Cond.code yX1_readEntry cX1_readEntry 3 (some .boolean) ∈ g_T := g_in 492 rfl rfl
theorem dX1_readEntry : g_MdV mX1_readEntry 0 := ⟨g_in 491 (by decide +kernel) rfl, g_in 13 (by decide +kernel) rfl, g_in 115 (by decide +kernel) rfl, kX1_readEntry, ⟨by decide +kernel, by decide +kernel, by decide +kernel⟩⟩
def mX1_readHouse : g_Y := (yX1_readHouse, cX1_readHouse, 1, (some .boolean))
set_option maxRecDepth 100000 in
theorem kX1_readHouse : Cond.code yX1_readHouse cX1_readHouse 1 (some .boolean) ∈ g_T := g_in 474 rfl rfl
theorem dX1_readHouse : g_MdV mX1_readHouse 0 := ⟨g_in 473 (by decide +kernel) rfl, g_in 9 (by decide +kernel) rfl, g_in 115 (by decide +kernel) rfl, kX1_readHouse, ⟨by decide +kernel, by decide +kernel, by decide +kernel⟩⟩
def mX1_readLeft : g_Y := (yX1_readLeft, cX1_readLeft, 2, (some .boolean))
set_option maxRecDepth 100000 in
theorem kX1_readLeft : Cond.code yX1_readLeft cX1_readLeft 2 (some .boolean) ∈ g_T := g_in 588 rfl rfl
theorem dX1_readLeft : g_MdV mX1_readLeft 0 := ⟨g_in 587 (by decide +kernel) rfl, g_in 26 (by decide +kernel) rfl, g_in 115 (by decide +kernel) rfl, kX1_readLeft, ⟨by decide +kernel, by decide +kernel, by decide +kernel⟩⟩
def mX1_readLine : g_Y := (yX1_readLine, cX1_readLine, 2, (some .boolean))
set_option maxRecDepth 100000 in
theorem kX1_readLine : Cond.code yX1_readLine cX1_readLine 2 (some .boolean) ∈ g_T := g_in 450 rfl rfl
theorem dX1_readLine : g_MdV mX1_readLine 0 := ⟨g_in 449 (by decide +kernel) rfl, g_in 5 (by decide +kernel) rfl, g_in 115 (by decide +kernel) rfl, kX1_readLine, ⟨by decide +kernel, by decide +kernel, by decide +kernel⟩⟩
def mX1_readMark : g_Y := (yX1_readMark, cX1_readMark, 1, none)
set_option maxRecDepth 100000 in
theorem kX1_readMark : Cond.code yX1_readMark cX1_readMark 1 none ∈ g_T := g_in 446 rfl rfl
theorem dX1_readMark : g_MdV mX1_readMark 0 := ⟨g_in 445 (by decide +kernel) rfl, g_in 4 (by decide +kernel) rfl, g_in 115 (by decide +kernel) rfl, kX1_readMark, ⟨by decide +kernel, by decide +kernel, by decide +kernel⟩⟩
def mX1_readMeans : g_Y := (yX1_readMeans, cX1_readMeans, 5, (some .boolean))
set_option maxRecDepth 100000 in
theorem kX1_readMeans : Cond.code yX1_readMeans cX1_readMeans 5 (some .boolean) ∈ g_T := g_in 517 rfl rfl
theorem dX1_readMeans : g_MdV mX1_readMeans 0 := ⟨g_in 516 (by decide +kernel) rfl, g_in 18 (by decide +kernel) rfl, g_in 115 (by decide +kernel) rfl, kX1_readMeans, ⟨by decide +kernel, by decide +kernel, by decide +kernel⟩⟩
def mX1_readRhymes : g_Y := (yX1_readRhymes, cX1_readRhymes, 3, (some .boolean))
set_option maxRecDepth 100000 in
theorem kX1_readRhymes : Cond.code yX1_readRhymes cX1_readRhymes 3 (some .boolean) ∈ g_T := g_in 536 rfl rfl
theorem dX1_readRhymes : g_MdV mX1_readRhymes 0 := ⟨g_in 535 (by decide +kernel) rfl, g_in 20 (by decide +kernel) rfl, g_in 115 (by decide +kernel) rfl, kX1_readRhymes, ⟨by decide +kernel, by decide +kernel, by decide +kernel⟩⟩
def mX1_readSays : g_Y := (yX1_readSays, cX1_readSays, 3, (some .boolean))
set_option maxRecDepth 100000 in
theorem kX1_readSays : Cond.code yX1_readSays cX1_readSays 3 (some .boolean) ∈ g_T := g_in 559 rfl rfl
theorem dX1_readSays : g_MdV mX1_readSays 0 := ⟨g_in 558 (by decide +kernel) rfl, g_in 23 (by decide +kernel) rfl, g_in 115 (by decide +kernel) rfl, kX1_readSays, ⟨by decide +kernel, by decide +kernel, by decide +kernel⟩⟩
def mX1_readSpeaker : g_Y := (yX1_readSpeaker, cX1_readSpeaker, 4, (some .boolean))
set_option maxRecDepth 100000 in
theorem kX1_readSpeaker : Cond.code yX1_readSpeaker cX1_readSpeaker 4 (some .boolean) ∈ g_T := g_in 544 rfl rfl
theorem dX1_readSpeaker : g_MdV mX1_readSpeaker 0 := ⟨g_in 543 (by decide +kernel) rfl, g_in 21 (by decide +kernel) rfl, g_in 115 (by decide +kernel) rfl, kX1_readSpeaker, ⟨by decide +kernel, by decide +kernel, by decide +kernel⟩⟩
def mX1_readUnsure : g_Y := (yX1_readUnsure, cX1_readUnsure, 4, (some .boolean))
set_option maxRecDepth 100000 in
theorem kX1_readUnsure : Cond.code yX1_readUnsure cX1_readUnsure 4 (some .boolean) ∈ g_T := g_in 576 rfl rfl
theorem dX1_readUnsure : g_MdV mX1_readUnsure 0 := ⟨g_in 575 (by decide +kernel) rfl, g_in 25 (by decide +kernel) rfl, g_in 115 (by decide +kernel) rfl, kX1_readUnsure, ⟨by decide +kernel, by decide +kernel, by decide +kernel⟩⟩
def mX1_readWhole : g_Y := (yX1_readWhole, cX1_readWhole, 1, none)
set_option maxRecDepth 100000 in
theorem kX1_readWhole : Cond.code yX1_readWhole cX1_readWhole 1 none ∈ g_T := g_in 442 rfl rfl
theorem dX1_readWhole : g_MdV mX1_readWhole 0 := ⟨g_in 441 (by decide +kernel) rfl, g_in 3 (by decide +kernel) rfl, g_in 115 (by decide +kernel) rfl, kX1_readWhole, ⟨by decide +kernel, by decide +kernel, by decide +kernel⟩⟩
def mX1_readWord : g_Y := (yX1_readWord, cX1_readWord, 1, none)
set_option maxRecDepth 100000 in
theorem kX1_readWord : Cond.code yX1_readWord cX1_readWord 1 none ∈ g_T := g_in 438 rfl rfl
theorem dX1_readWord : g_MdV mX1_readWord 0 := ⟨g_in 437 (by decide +kernel) rfl, g_in 2 (by decide +kernel) rfl, g_in 115 (by decide +kernel) rfl, kX1_readWord, ⟨by decide +kernel, by decide +kernel, by decide +kernel⟩⟩
def mX1_speakerHere : g_Y := (yX1_speakerHere, cX1_speakerHere, 2, (some .int))
set_option maxRecDepth 100000 in
theorem kX1_speakerHere : Cond.code yX1_speakerHere cX1_speakerHere 2 (some .int) ∈ g_T := g_in 563 rfl rfl
theorem dX1_speakerHere : g_MdV mX1_speakerHere 0 := ⟨g_in 562 (by decide +kernel) rfl, g_in 24 (by decide +kernel) rfl, g_in 115 (by decide +kernel) rfl, kX1_speakerHere, ⟨by decide +kernel, by decide +kernel, by decide +kernel⟩⟩
def mX1_step : g_Y := (yX1_step, cX1_step, 2, none)
set_option maxRecDepth 100000 in
theorem kX1_step : Cond.code yX1_step cX1_step 2 none ∈ g_T := g_in 434 rfl rfl
theorem dX1_step : g_MdV mX1_step 0 := ⟨g_in 433 (by decide +kernel) rfl, g_in 1 (by decide +kernel) rfl, g_in 115 (by decide +kernel) rfl, kX1_step, ⟨by decide +kernel, by decide +kernel, by decide +kernel⟩⟩
def mX2_begin : g_Y := (yX2_begin, cX2_begin, 3, none)
set_option maxRecDepth 100000 in
theorem kX2_begin : Cond.code yX2_begin cX2_begin 3 none ∈ g_T := g_in 597 rfl rfl
theorem dX2_begin : g_MdV mX2_begin 1 := ⟨g_in 595 (by decide +kernel) rfl, g_in 596 (by decide +kernel) rfl, g_in 118 (by decide +kernel) rfl, kX2_begin, ⟨by decide +kernel, by decide +kernel, by decide +kernel⟩⟩
def mX2_copyFrom : g_Y := (yX2_copyFrom, cX2_copyFrom, 2, none)
set_option maxRecDepth 100000 in
theorem kX2_copyFrom : Cond.code yX2_copyFrom cX2_copyFrom 2 none ∈ g_T := g_in 756 rfl rfl
theorem dX2_copyFrom : g_MdV mX2_copyFrom 1 := ⟨g_in 754 (by decide +kernel) rfl, g_in 755 (by decide +kernel) rfl, g_in 118 (by decide +kernel) rfl, kX2_copyFrom, ⟨by decide +kernel, by decide +kernel, by decide +kernel⟩⟩
def mX2_init : g_Y := (yX2_init, cX2_init, 1, none)
set_option maxRecDepth 100000 in
theorem kX2_init : Cond.code yX2_init cX2_init 1 none ∈ g_T := g_in 315 rfl rfl
theorem dX2_init : g_MdI mX2_init 0 := ⟨g_in 314 (by decide +kernel) rfl, rfl, rfl, g_in 118 (by decide +kernel) rfl, kX2_init, ⟨by decide +kernel, by decide +kernel, by decide +kernel⟩⟩
def mX2_keepOnly : g_Y := (yX2_keepOnly, cX2_keepOnly, 4, (some .int))
set_option maxRecDepth 100000 in
theorem kX2_keepOnly : Cond.code yX2_keepOnly cX2_keepOnly 4 (some .int) ∈ g_T := g_in 653 rfl rfl
theorem dX2_keepOnly : g_MdV mX2_keepOnly 1 := ⟨g_in 651 (by decide +kernel) rfl, g_in 652 (by decide +kernel) rfl, g_in 118 (by decide +kernel) rfl, kX2_keepOnly, ⟨by decide +kernel, by decide +kernel, by decide +kernel⟩⟩
def mX3_addEntry : g_Y := (yX3_addEntry, cX3_addEntry, 4, none)
set_option maxRecDepth 100000 in
theorem kX3_addEntry : Cond.code yX3_addEntry cX3_addEntry 4 none ∈ g_T := g_in 513 rfl rfl
theorem dX3_addEntry : g_MdV mX3_addEntry 1 := ⟨g_in 511 (by decide +kernel) rfl, g_in 512 (by decide +kernel) rfl, g_in 114 (by decide +kernel) rfl, kX3_addEntry, ⟨by decide +kernel, by decide +kernel, by decide +kernel⟩⟩
def mX3_addLeaver : g_Y := (yX3_addLeaver, cX3_addLeaver, 3, none)
set_option maxRecDepth 100000 in
theorem kX3_addLeaver : Cond.code yX3_addLeaver cX3_addLeaver 3 none ∈ g_T := g_in 593 rfl rfl
theorem dX3_addLeaver : g_MdV mX3_addLeaver 2 := ⟨g_in 591 (by decide +kernel) rfl, g_in 592 (by decide +kernel) rfl, g_in 114 (by decide +kernel) rfl, kX3_addLeaver, ⟨by decide +kernel, by decide +kernel, by decide +kernel⟩⟩
def mX3_addMeaning : g_Y := (yX3_addMeaning, cX3_addMeaning, 3, none)
set_option maxRecDepth 100000 in
theorem kX3_addMeaning : Cond.code yX3_addMeaning cX3_addMeaning 3 none ∈ g_T := g_in 528 rfl rfl
theorem dX3_addMeaning : g_MdV mX3_addMeaning 2 := ⟨g_in 526 (by decide +kernel) rfl, g_in 527 (by decide +kernel) rfl, g_in 114 (by decide +kernel) rfl, kX3_addMeaning, ⟨by decide +kernel, by decide +kernel, by decide +kernel⟩⟩
def mX3_addRhyme : g_Y := (yX3_addRhyme, cX3_addRhyme, 3, none)
set_option maxRecDepth 100000 in
theorem kX3_addRhyme : Cond.code yX3_addRhyme cX3_addRhyme 3 none ∈ g_T := g_in 540 rfl rfl
theorem dX3_addRhyme : g_MdV mX3_addRhyme 2 := ⟨g_in 538 (by decide +kernel) rfl, g_in 539 (by decide +kernel) rfl, g_in 114 (by decide +kernel) rfl, kX3_addRhyme, ⟨by decide +kernel, by decide +kernel, by decide +kernel⟩⟩
def mX3_addSaying : g_Y := (yX3_addSaying, cX3_addSaying, 4, none)
set_option maxRecDepth 100000 in
theorem kX3_addSaying : Cond.code yX3_addSaying cX3_addSaying 4 none ∈ g_T := g_in 572 rfl rfl
theorem dX3_addSaying : g_MdV mX3_addSaying 3 := ⟨g_in 570 (by decide +kernel) rfl, g_in 571 (by decide +kernel) rfl, g_in 114 (by decide +kernel) rfl, kX3_addSaying, ⟨by decide +kernel, by decide +kernel, by decide +kernel⟩⟩
def mX3_addSpeaker : g_Y := (yX3_addSpeaker, cX3_addSpeaker, 2, none)
set_option maxRecDepth 100000 in
theorem kX3_addSpeaker : Cond.code yX3_addSpeaker cX3_addSpeaker 2 none ∈ g_T := g_in 555 rfl rfl
theorem dX3_addSpeaker : g_MdV mX3_addSpeaker 1 := ⟨g_in 553 (by decide +kernel) rfl, g_in 554 (by decide +kernel) rfl, g_in 114 (by decide +kernel) rfl, kX3_addSpeaker, ⟨by decide +kernel, by decide +kernel, by decide +kernel⟩⟩
def mX3_addUnsure : g_Y := (yX3_addUnsure, cX3_addUnsure, 3, none)
set_option maxRecDepth 100000 in
theorem kX3_addUnsure : Cond.code yX3_addUnsure cX3_addUnsure 3 none ∈ g_T := g_in 580 rfl rfl
theorem dX3_addUnsure : g_MdV mX3_addUnsure 2 := ⟨g_in 578 (by decide +kernel) rfl, g_in 579 (by decide +kernel) rfl, g_in 114 (by decide +kernel) rfl, kX3_addUnsure, ⟨by decide +kernel, by decide +kernel, by decide +kernel⟩⟩
def mX3_allMeanings : g_Y := (yX3_allMeanings, cX3_allMeanings, 4, (some .int))
set_option maxRecDepth 100000 in
theorem kX3_allMeanings : Cond.code yX3_allMeanings cX3_allMeanings 4 (some .int) ∈ g_T := g_in 692 rfl rfl
theorem dX3_allMeanings : g_MdV mX3_allMeanings 1 := ⟨g_in 691 (by decide +kernel) rfl, g_in 31 (by decide +kernel) rfl, g_in 114 (by decide +kernel) rfl, kX3_allMeanings, ⟨by decide +kernel, by decide +kernel, by decide +kernel⟩⟩
def mX3_certainty : g_Y := (yX3_certainty, cX3_certainty, 4, (some .long))
set_option maxRecDepth 100000 in
theorem kX3_certainty : Cond.code yX3_certainty cX3_certainty 4 (some .long) ∈ g_T := g_in 958 rfl rfl
theorem dX3_certainty : g_MdV mX3_certainty 0 := ⟨g_in 956 (by decide +kernel) rfl, g_in 957 (by decide +kernel) rfl, g_in 114 (by decide +kernel) rfl, kX3_certainty, ⟨by decide +kernel, by decide +kernel, by decide +kernel⟩⟩
def mX3_clear : g_Y := (yX3_clear, cX3_clear, 1, none)
set_option maxRecDepth 100000 in
theorem kX3_clear : Cond.code yX3_clear cX3_clear 1 none ∈ g_T := g_in 430 rfl rfl
theorem dX3_clear : g_MdV mX3_clear 0 := ⟨g_in 428 (by decide +kernel) rfl, g_in 429 (by decide +kernel) rfl, g_in 114 (by decide +kernel) rfl, kX3_clear, ⟨by decide +kernel, by decide +kernel, by decide +kernel⟩⟩
def mX3_depthOf : g_Y := (yX3_depthOf, cX3_depthOf, 5, (some .int))
set_option maxRecDepth 100000 in
theorem kX3_depthOf : Cond.code yX3_depthOf cX3_depthOf 5 (some .int) ∈ g_T := g_in 830 rfl rfl
theorem dX3_depthOf : g_MdV mX3_depthOf 2 := ⟨g_in 828 (by decide +kernel) rfl, g_in 829 (by decide +kernel) rfl, g_in 114 (by decide +kernel) rfl, kX3_depthOf, ⟨by decide +kernel, by decide +kernel, by decide +kernel⟩⟩
def mX3_distance : g_Y := (yX3_distance, cX3_distance, 7, (some .int))
set_option maxRecDepth 100000 in
theorem kX3_distance : Cond.code yX3_distance cX3_distance 7 (some .int) ∈ g_T := g_in 858 rfl rfl
theorem dX3_distance : g_MdV mX3_distance 2 := ⟨g_in 856 (by decide +kernel) rfl, g_in 857 (by decide +kernel) rfl, g_in 114 (by decide +kernel) rfl, kX3_distance, ⟨by decide +kernel, by decide +kernel, by decide +kernel⟩⟩
def mX3_explainedAmong : g_Y := (yX3_explainedAmong, cX3_explainedAmong, 5, (some .int))
set_option maxRecDepth 100000 in
theorem kX3_explainedAmong : Cond.code yX3_explainedAmong cX3_explainedAmong 5 (some .int) ∈ g_T := g_in 645 rfl rfl
theorem dX3_explainedAmong : g_MdV mX3_explainedAmong 2 := ⟨g_in 644 (by decide +kernel) rfl, g_in 29 (by decide +kernel) rfl, g_in 114 (by decide +kernel) rfl, kX3_explainedAmong, ⟨by decide +kernel, by decide +kernel, by decide +kernel⟩⟩
def mX3_explainedBy : g_Y := (yX3_explainedBy, cX3_explainedBy, 4, (some .int))
set_option maxRecDepth 100000 in
theorem kX3_explainedBy : Cond.code yX3_explainedBy cX3_explainedBy 4 (some .int) ∈ g_T := g_in 688 rfl rfl
theorem dX3_explainedBy : g_MdV mX3_explainedBy 1 := ⟨g_in 686 (by decide +kernel) rfl, g_in 687 (by decide +kernel) rfl, g_in 114 (by decide +kernel) rfl, kX3_explainedBy, ⟨by decide +kernel, by decide +kernel, by decide +kernel⟩⟩
def mX3_familyOf : g_Y := (yX3_familyOf, cX3_familyOf, 4, (some .int))
set_option maxRecDepth 100000 in
theorem kX3_familyOf : Cond.code yX3_familyOf cX3_familyOf 4 (some .int) ∈ g_T := g_in 884 rfl rfl
theorem dX3_familyOf : g_MdV mX3_familyOf 1 := ⟨g_in 882 (by decide +kernel) rfl, g_in 883 (by decide +kernel) rfl, g_in 114 (by decide +kernel) rfl, kX3_familyOf, ⟨by decide +kernel, by decide +kernel, by decide +kernel⟩⟩
def mX3_findSaying : g_Y := (yX3_findSaying, cX3_findSaying, 4, (some .int))
set_option maxRecDepth 100000 in
theorem kX3_findSaying : Cond.code yX3_findSaying cX3_findSaying 4 (some .int) ∈ g_T := g_in 567 rfl rfl
theorem dX3_findSaying : g_MdV mX3_findSaying 2 := ⟨g_in 565 (by decide +kernel) rfl, g_in 566 (by decide +kernel) rfl, g_in 114 (by decide +kernel) rfl, kX3_findSaying, ⟨by decide +kernel, by decide +kernel, by decide +kernel⟩⟩
def mX3_grounded : g_Y := (yX3_grounded, cX3_grounded, 6, (some .int))
set_option maxRecDepth 100000 in
theorem kX3_grounded : Cond.code yX3_grounded cX3_grounded 6 (some .int) ∈ g_T := g_in 814 rfl rfl
theorem dX3_grounded : g_MdV mX3_grounded 2 := ⟨g_in 812 (by decide +kernel) rfl, g_in 813 (by decide +kernel) rfl, g_in 114 (by decide +kernel) rfl, kX3_grounded, ⟨by decide +kernel, by decide +kernel, by decide +kernel⟩⟩
def mX3_init : g_Y := (yX3_init, cX3_init, 1, none)
set_option maxRecDepth 100000 in
theorem kX3_init : Cond.code yX3_init cX3_init 1 none ∈ g_T := g_in 144 rfl rfl
theorem dX3_init : g_MdI mX3_init 0 := ⟨g_in 143 (by decide +kernel) rfl, rfl, rfl, g_in 114 (by decide +kernel) rfl, kX3_init, ⟨by decide +kernel, by decide +kernel, by decide +kernel⟩⟩
def mX3_isEntry : g_Y := (yX3_isEntry, cX3_isEntry, 2, (some .boolean))
set_option maxRecDepth 100000 in
theorem kX3_isEntry : Cond.code yX3_isEntry cX3_isEntry 2 (some .boolean) ∈ g_T := g_in 532 rfl rfl
theorem dX3_isEntry : g_MdV mX3_isEntry 1 := ⟨g_in 530 (by decide +kernel) rfl, g_in 531 (by decide +kernel) rfl, g_in 114 (by decide +kernel) rfl, kX3_isEntry, ⟨by decide +kernel, by decide +kernel, by decide +kernel⟩⟩
def mX3_isExplained : g_Y := (yX3_isExplained, cX3_isExplained, 4, (some .boolean))
set_option maxRecDepth 100000 in
theorem kX3_isExplained : Cond.code yX3_isExplained cX3_isExplained 4 (some .boolean) ∈ g_T := g_in 649 rfl rfl
theorem dX3_isExplained : g_MdV mX3_isExplained 2 := ⟨g_in 647 (by decide +kernel) rfl, g_in 648 (by decide +kernel) rfl, g_in 114 (by decide +kernel) rfl, kX3_isExplained, ⟨by decide +kernel, by decide +kernel, by decide +kernel⟩⟩
def mX3_isMeaning : g_Y := (yX3_isMeaning, cX3_isMeaning, 3, (some .boolean))
set_option maxRecDepth 100000 in
theorem kX3_isMeaning : Cond.code yX3_isMeaning cX3_isMeaning 3 (some .boolean) ∈ g_T := g_in 700 rfl rfl
theorem dX3_isMeaning : g_MdV mX3_isMeaning 2 := ⟨g_in 698 (by decide +kernel) rfl, g_in 699 (by decide +kernel) rfl, g_in 114 (by decide +kernel) rfl, kX3_isMeaning, ⟨by decide +kernel, by decide +kernel, by decide +kernel⟩⟩
def mX3_isSaying : g_Y := (yX3_isSaying, cX3_isSaying, 2, (some .boolean))
set_option maxRecDepth 100000 in
theorem kX3_isSaying : Cond.code yX3_isSaying cX3_isSaying 2 (some .boolean) ∈ g_T := g_in 584 rfl rfl
theorem dX3_isSaying : g_MdV mX3_isSaying 1 := ⟨g_in 582 (by decide +kernel) rfl, g_in 583 (by decide +kernel) rfl, g_in 114 (by decide +kernel) rfl, kX3_isSaying, ⟨by decide +kernel, by decide +kernel, by decide +kernel⟩⟩
def mX3_isSpeaker : g_Y := (yX3_isSpeaker, cX3_isSpeaker, 2, (some .boolean))
set_option maxRecDepth 100000 in
theorem kX3_isSpeaker : Cond.code yX3_isSpeaker cX3_isSpeaker 2 (some .boolean) ∈ g_T := g_in 627 rfl rfl
theorem dX3_isSpeaker : g_MdV mX3_isSpeaker 1 := ⟨g_in 625 (by decide +kernel) rfl, g_in 626 (by decide +kernel) rfl, g_in 114 (by decide +kernel) rfl, kX3_isSpeaker, ⟨by decide +kernel, by decide +kernel, by decide +kernel⟩⟩
def mX3_leaversIn : g_Y := (yX3_leaversIn, cX3_leaversIn, 4, (some .int))
set_option maxRecDepth 100000 in
theorem kX3_leaversIn : Cond.code yX3_leaversIn cX3_leaversIn 4 (some .int) ∈ g_T := g_in 658 rfl rfl
theorem dX3_leaversIn : g_MdV mX3_leaversIn 1 := ⟨g_in 656 (by decide +kernel) rfl, g_in 657 (by decide +kernel) rfl, g_in 114 (by decide +kernel) rfl, kX3_leaversIn, ⟨by decide +kernel, by decide +kernel, by decide +kernel⟩⟩
def mX3_likelihood : g_Y := (yX3_likelihood, cX3_likelihood, 5, (some .long))
set_option maxRecDepth 100000 in
theorem kX3_likelihood : Cond.code yX3_likelihood cX3_likelihood 5 (some .long) ∈ g_T := g_in 954 rfl rfl
theorem dX3_likelihood : g_MdV mX3_likelihood 1 := ⟨g_in 952 (by decide +kernel) rfl, g_in 953 (by decide +kernel) rfl, g_in 114 (by decide +kernel) rfl, kX3_likelihood, ⟨by decide +kernel, by decide +kernel, by decide +kernel⟩⟩
def mX3_rhymesBetween : g_Y := (yX3_rhymesBetween, cX3_rhymesBetween, 5, (some .int))
set_option maxRecDepth 100000 in
theorem kX3_rhymesBetween : Cond.code yX3_rhymesBetween cX3_rhymesBetween 5 (some .int) ∈ g_T := g_in 872 rfl rfl
theorem dX3_rhymesBetween : g_MdV mX3_rhymesBetween 2 := ⟨g_in 870 (by decide +kernel) rfl, g_in 871 (by decide +kernel) rfl, g_in 114 (by decide +kernel) rfl, kX3_rhymesBetween, ⟨by decide +kernel, by decide +kernel, by decide +kernel⟩⟩
def mX3_rootsOf : g_Y := (yX3_rootsOf, cX3_rootsOf, 6, (some .int))
set_option maxRecDepth 100000 in
theorem kX3_rootsOf : Cond.code yX3_rootsOf cX3_rootsOf 6 (some .int) ∈ g_T := g_in 846 rfl rfl
theorem dX3_rootsOf : g_MdV mX3_rootsOf 1 := ⟨g_in 844 (by decide +kernel) rfl, g_in 845 (by decide +kernel) rfl, g_in 114 (by decide +kernel) rfl, kX3_rootsOf, ⟨by decide +kernel, by decide +kernel, by decide +kernel⟩⟩
def mX3_saidBy : g_Y := (yX3_saidBy, cX3_saidBy, 4, (some .int))
set_option maxRecDepth 100000 in
theorem kX3_saidBy : Cond.code yX3_saidBy cX3_saidBy 4 (some .int) ∈ g_T := g_in 709 rfl rfl
theorem dX3_saidBy : g_MdV mX3_saidBy 1 := ⟨g_in 707 (by decide +kernel) rfl, g_in 708 (by decide +kernel) rfl, g_in 114 (by decide +kernel) rfl, kX3_saidBy, ⟨by decide +kernel, by decide +kernel, by decide +kernel⟩⟩
def mX3_supported : g_Y := (yX3_supported, cX3_supported, 5, (some .int))
set_option maxRecDepth 100000 in
theorem kX3_supported : Cond.code yX3_supported cX3_supported 5 (some .int) ∈ g_T := g_in 641 rfl rfl
theorem dX3_supported : g_MdV mX3_supported 1 := ⟨g_in 639 (by decide +kernel) rfl, g_in 640 (by decide +kernel) rfl, g_in 114 (by decide +kernel) rfl, kX3_supported, ⟨by decide +kernel, by decide +kernel, by decide +kernel⟩⟩
def mX3_timesIn : g_Y := (yX3_timesIn, cX3_timesIn, 6, (some .int))
set_option maxRecDepth 100000 in
theorem kX3_timesIn : Cond.code yX3_timesIn cX3_timesIn 6 (some .int) ∈ g_T := g_in 623 rfl rfl
theorem dX3_timesIn : g_MdV mX3_timesIn 3 := ⟨g_in 621 (by decide +kernel) rfl, g_in 622 (by decide +kernel) rfl, g_in 114 (by decide +kernel) rfl, kX3_timesIn, ⟨by decide +kernel, by decide +kernel, by decide +kernel⟩⟩
def mX3_withRhymes : g_Y := (yX3_withRhymes, cX3_withRhymes, 4, (some .int))
set_option maxRecDepth 100000 in
theorem kX3_withRhymes : Cond.code yX3_withRhymes cX3_withRhymes 4 (some .int) ∈ g_T := g_in 876 rfl rfl
theorem dX3_withRhymes : g_MdV mX3_withRhymes 1 := ⟨g_in 875 (by decide +kernel) rfl, g_in 39 (by decide +kernel) rfl, g_in 114 (by decide +kernel) rfl, kX3_withRhymes, ⟨by decide +kernel, by decide +kernel, by decide +kernel⟩⟩
def mX4_canPay : g_Y := (yX4_canPay, cX4_canPay, 7, (some .boolean))
set_option maxRecDepth 100000 in
theorem kX4_canPay : Cond.code yX4_canPay cX4_canPay 7 (some .boolean) ∈ g_T := g_in 637 rfl rfl
theorem dX4_canPay : g_MdV mX4_canPay 3 := ⟨g_in 635 (by decide +kernel) rfl, g_in 636 (by decide +kernel) rfl, g_in 116 (by decide +kernel) rfl, kX4_canPay, ⟨by decide +kernel, by decide +kernel, by decide +kernel⟩⟩
def mX4_count : g_Y := (yX4_count, cX4_count, 8, none)
set_option maxRecDepth 100000 in
theorem kX4_count : Cond.code yX4_count cX4_count 8 none ∈ g_T := g_in 617 rfl rfl
theorem dX4_count : g_MdV mX4_count 5 := ⟨g_in 615 (by decide +kernel) rfl, g_in 616 (by decide +kernel) rfl, g_in 116 (by decide +kernel) rfl, kX4_count, ⟨by decide +kernel, by decide +kernel, by decide +kernel⟩⟩
def mX4_init : g_Y := (yX4_init, cX4_init, 1, none)
set_option maxRecDepth 100000 in
theorem kX4_init : Cond.code yX4_init cX4_init 1 none ∈ g_T := g_in 298 rfl rfl
theorem dX4_init : g_MdI mX4_init 0 := ⟨g_in 297 (by decide +kernel) rfl, rfl, rfl, g_in 116 (by decide +kernel) rfl, kX4_init, ⟨by decide +kernel, by decide +kernel, by decide +kernel⟩⟩
def mX4_pass : g_Y := (yX4_pass, cX4_pass, 8, (some .int))
set_option maxRecDepth 100000 in
theorem kX4_pass : Cond.code yX4_pass cX4_pass 8 (some .int) ∈ g_T := g_in 613 rfl rfl
theorem dX4_pass : g_MdV mX4_pass 4 := ⟨g_in 611 (by decide +kernel) rfl, g_in 612 (by decide +kernel) rfl, g_in 116 (by decide +kernel) rfl, kX4_pass, ⟨by decide +kernel, by decide +kernel, by decide +kernel⟩⟩
def mX4_passMoody : g_Y := (yX4_passMoody, cX4_passMoody, 5, (some .int))
set_option maxRecDepth 100000 in
theorem kX4_passMoody : Cond.code yX4_passMoody cX4_passMoody 5 (some .int) ∈ g_T := g_in 986 rfl rfl
theorem dX4_passMoody : g_MdV mX4_passMoody 2 := ⟨g_in 984 (by decide +kernel) rfl, g_in 985 (by decide +kernel) rfl, g_in 116 (by decide +kernel) rfl, kX4_passMoody, ⟨by decide +kernel, by decide +kernel, by decide +kernel⟩⟩
def mX4_unpaidAmong : g_Y := (yX4_unpaidAmong, cX4_unpaidAmong, 5, (some .int))
set_option maxRecDepth 100000 in
theorem kX4_unpaidAmong : Cond.code yX4_unpaidAmong cX4_unpaidAmong 5 (some .int) ∈ g_T := g_in 633 rfl rfl
theorem dX4_unpaidAmong : g_MdV mX4_unpaidAmong 2 := ⟨g_in 631 (by decide +kernel) rfl, g_in 632 (by decide +kernel) rfl, g_in 116 (by decide +kernel) rfl, kX4_unpaidAmong, ⟨by decide +kernel, by decide +kernel, by decide +kernel⟩⟩
def mX4_used : g_Y := (yX4_used, cX4_used, 2, (some .int))
set_option maxRecDepth 100000 in
theorem kX4_used : Cond.code yX4_used cX4_used 2 (some .int) ∈ g_T := g_in 727 rfl rfl
theorem dX4_used : g_MdV mX4_used 1 := ⟨g_in 725 (by decide +kernel) rfl, g_in 726 (by decide +kernel) rfl, g_in 116 (by decide +kernel) rfl, kX4_used, ⟨by decide +kernel, by decide +kernel, by decide +kernel⟩⟩
def mX5_after : g_Y := (yX5_after, cX5_after, 3, (some .int))
set_option maxRecDepth 100000 in
theorem kX5_after : Cond.code yX5_after cX5_after 3 (some .int) ∈ g_T := g_in 749 rfl rfl
theorem dX5_after : g_MdV mX5_after 1 := ⟨g_in 747 (by decide +kernel) rfl, g_in 748 (by decide +kernel) rfl, g_in 113 (by decide +kernel) rfl, kX5_after, ⟨by decide +kernel, by decide +kernel, by decide +kernel⟩⟩
def mX5_allowed : g_Y := (yX5_allowed, cX5_allowed, 1, (some .boolean))
set_option maxRecDepth 100000 in
theorem kX5_allowed : Cond.code yX5_allowed cX5_allowed 1 (some .boolean) ∈ g_T := g_in 1027 rfl rfl
theorem dX5_allowed : g_MdV mX5_allowed 0 := ⟨g_in 1026 (by decide +kernel) rfl, g_in 44 (by decide +kernel) rfl, g_in 113 (by decide +kernel) rfl, kX5_allowed, ⟨by decide +kernel, by decide +kernel, by decide +kernel⟩⟩
def mX5_apart : g_Y := (yX5_apart, cX5_apart, 3, (some .int))
set_option maxRecDepth 100000 in
theorem kX5_apart : Cond.code yX5_apart cX5_apart 3 (some .int) ∈ g_T := g_in 854 rfl rfl
theorem dX5_apart : g_MdV mX5_apart 2 := ⟨g_in 852 (by decide +kernel) rfl, g_in 853 (by decide +kernel) rfl, g_in 113 (by decide +kernel) rfl, kX5_apart, ⟨by decide +kernel, by decide +kernel, by decide +kernel⟩⟩
def mX5_ask : g_Y := (yX5_ask, cX5_ask, 1, (some .int))
set_option maxRecDepth 100000 in
theorem kX5_ask : Cond.code yX5_ask cX5_ask 1 (some .int) ∈ g_T := g_in 907 rfl rfl
theorem dX5_ask : g_MdV mX5_ask 0 := ⟨g_in 905 (by decide +kernel) rfl, g_in 906 (by decide +kernel) rfl, g_in 113 (by decide +kernel) rfl, kX5_ask, ⟨by decide +kernel, by decide +kernel, by decide +kernel⟩⟩
def mX5_askLeaves : g_Y := (yX5_askLeaves, cX5_askLeaves, 2, (some .int))
set_option maxRecDepth 100000 in
theorem kX5_askLeaves : Cond.code yX5_askLeaves cX5_askLeaves 2 (some .int) ∈ g_T := g_in 920 rfl rfl
theorem dX5_askLeaves : g_MdV mX5_askLeaves 0 := ⟨g_in 918 (by decide +kernel) rfl, g_in 919 (by decide +kernel) rfl, g_in 113 (by decide +kernel) rfl, kX5_askLeaves, ⟨by decide +kernel, by decide +kernel, by decide +kernel⟩⟩
def mX5_back : g_Y := (yX5_back, cX5_back, 2, (some .boolean))
set_option maxRecDepth 100000 in
theorem kX5_back : Cond.code yX5_back cX5_back 2 (some .boolean) ∈ g_T := g_in 1051 rfl rfl
theorem dX5_back : g_MdV mX5_back 1 := ⟨g_in 1049 (by decide +kernel) rfl, g_in 1050 (by decide +kernel) rfl, g_in 113 (by decide +kernel) rfl, kX5_back, ⟨by decide +kernel, by decide +kernel, by decide +kernel⟩⟩
def mX5_bestToAsk : g_Y := (yX5_bestToAsk, cX5_bestToAsk, 5, (some .int))
set_option maxRecDepth 100000 in
theorem kX5_bestToAsk : Cond.code yX5_bestToAsk cX5_bestToAsk 5 (some .int) ∈ g_T := g_in 911 rfl rfl
theorem dX5_bestToAsk : g_MdV mX5_bestToAsk 0 := ⟨g_in 910 (by decide +kernel) rfl, g_in 40 (by decide +kernel) rfl, g_in 113 (by decide +kernel) rfl, kX5_bestToAsk, ⟨by decide +kernel, by decide +kernel, by decide +kernel⟩⟩
def mX5_chime : g_Y := (yX5_chime, cX5_chime, 3, (some .int))
set_option maxRecDepth 100000 in
theorem kX5_chime : Cond.code yX5_chime cX5_chime 3 (some .int) ∈ g_T := g_in 868 rfl rfl
theorem dX5_chime : g_MdV mX5_chime 2 := ⟨g_in 866 (by decide +kernel) rfl, g_in 867 (by decide +kernel) rfl, g_in 113 (by decide +kernel) rfl, kX5_chime, ⟨by decide +kernel, by decide +kernel, by decide +kernel⟩⟩
def mX5_circular : g_Y := (yX5_circular, cX5_circular, 2, (some .int))
set_option maxRecDepth 100000 in
theorem kX5_circular : Cond.code yX5_circular cX5_circular 2 (some .int) ∈ g_T := g_in 850 rfl rfl
theorem dX5_circular : g_MdV mX5_circular 1 := ⟨g_in 848 (by decide +kernel) rfl, g_in 849 (by decide +kernel) rfl, g_in 113 (by decide +kernel) rfl, kX5_circular, ⟨by decide +kernel, by decide +kernel, by decide +kernel⟩⟩
def mX5_commonDivisor : g_Y := (yX5_commonDivisor, cX5_commonDivisor, 11, (some .long))
set_option maxRecDepth 100000 in
theorem kX5_commonDivisor : Cond.code yX5_commonDivisor cX5_commonDivisor 11 (some .long) ∈ g_T := g_in 965 rfl rfl
theorem dX5_commonDivisor : g_MdS mX5_commonDivisor 2 := ⟨g_in 964 (by decide +kernel) rfl, g_in 113 (by decide +kernel) rfl, kX5_commonDivisor, ⟨by decide +kernel, by decide +kernel, by decide +kernel⟩⟩
def mX5_could : g_Y := (yX5_could, cX5_could, 3, (some .int))
set_option maxRecDepth 100000 in
theorem kX5_could : Cond.code yX5_could cX5_could 3 (some .int) ∈ g_T := g_in 899 rfl rfl
theorem dX5_could : g_MdV mX5_could 0 := ⟨g_in 897 (by decide +kernel) rfl, g_in 898 (by decide +kernel) rfl, g_in 113 (by decide +kernel) rfl, kX5_could, ⟨by decide +kernel, by decide +kernel, by decide +kernel⟩⟩
def mX5_dearest : g_Y := (yX5_dearest, cX5_dearest, 5, (some .int))
set_option maxRecDepth 100000 in
theorem kX5_dearest : Cond.code yX5_dearest cX5_dearest 5 (some .int) ∈ g_T := g_in 806 rfl rfl
theorem dX5_dearest : g_MdV mX5_dearest 0 := ⟨g_in 804 (by decide +kernel) rfl, g_in 805 (by decide +kernel) rfl, g_in 113 (by decide +kernel) rfl, kX5_dearest, ⟨by decide +kernel, by decide +kernel, by decide +kernel⟩⟩
def mX5_debtors : g_Y := (yX5_debtors, cX5_debtors, 1, (some .int))
set_option maxRecDepth 100000 in
theorem kX5_debtors : Cond.code yX5_debtors cX5_debtors 1 (some .int) ∈ g_T := g_in 744 rfl rfl
theorem dX5_debtors : g_MdV mX5_debtors 0 := ⟨g_in 742 (by decide +kernel) rfl, g_in 743 (by decide +kernel) rfl, g_in 113 (by decide +kernel) rfl, kX5_debtors, ⟨by decide +kernel, by decide +kernel, by decide +kernel⟩⟩
def mX5_denied : g_Y := (yX5_denied, cX5_denied, 2, (some .boolean))
set_option maxRecDepth 100000 in
theorem kX5_denied : Cond.code yX5_denied cX5_denied 2 (some .boolean) ∈ g_T := g_in 1022 rfl rfl
theorem dX5_denied : g_MdV mX5_denied 1 := ⟨g_in 1021 (by decide +kernel) rfl, g_in 43 (by decide +kernel) rfl, g_in 113 (by decide +kernel) rfl, kX5_denied, ⟨by decide +kernel, by decide +kernel, by decide +kernel⟩⟩
def mX5_depth : g_Y := (yX5_depth, cX5_depth, 2, (some .int))
set_option maxRecDepth 100000 in
theorem kX5_depth : Cond.code yX5_depth cX5_depth 2 (some .int) ∈ g_T := g_in 826 rfl rfl
theorem dX5_depth : g_MdV mX5_depth 1 := ⟨g_in 824 (by decide +kernel) rfl, g_in 825 (by decide +kernel) rfl, g_in 113 (by decide +kernel) rfl, kX5_depth, ⟨by decide +kernel, by decide +kernel, by decide +kernel⟩⟩
def mX5_emptyIn : g_Y := (yX5_emptyIn, cX5_emptyIn, 1, (some .int))
set_option maxRecDepth 100000 in
theorem kX5_emptyIn : Cond.code yX5_emptyIn cX5_emptyIn 1 (some .int) ∈ g_T := g_in 771 rfl rfl
theorem dX5_emptyIn : g_MdV mX5_emptyIn 0 := ⟨g_in 769 (by decide +kernel) rfl, g_in 770 (by decide +kernel) rfl, g_in 113 (by decide +kernel) rfl, kX5_emptyIn, ⟨by decide +kernel, by decide +kernel, by decide +kernel⟩⟩
def mX5_entry : g_Y := (yX5_entry, cX5_entry, 3, (some .int))
set_option maxRecDepth 100000 in
theorem kX5_entry : Cond.code yX5_entry cX5_entry 3 (some .int) ∈ g_T := g_in 682 rfl rfl
theorem dX5_entry : g_MdV mX5_entry 2 := ⟨g_in 680 (by decide +kernel) rfl, g_in 681 (by decide +kernel) rfl, g_in 113 (by decide +kernel) rfl, kX5_entry, ⟨by decide +kernel, by decide +kernel, by decide +kernel⟩⟩
def mX5_evict : g_Y := (yX5_evict, cX5_evict, 2, (some .int))
set_option maxRecDepth 100000 in
theorem kX5_evict : Cond.code yX5_evict cX5_evict 2 (some .int) ∈ g_T := g_in 1013 rfl rfl
theorem dX5_evict : g_MdV mX5_evict 1 := ⟨g_in 1011 (by decide +kernel) rfl, g_in 1012 (by decide +kernel) rfl, g_in 113 (by decide +kernel) rfl, kX5_evict, ⟨by decide +kernel, by decide +kernel, by decide +kernel⟩⟩
def mX5_families : g_Y := (yX5_families, cX5_families, 4, (some .int))
set_option maxRecDepth 100000 in
theorem kX5_families : Cond.code yX5_families cX5_families 4 (some .int) ∈ g_T := g_in 880 rfl rfl
theorem dX5_families : g_MdV mX5_families 0 := ⟨g_in 878 (by decide +kernel) rfl, g_in 879 (by decide +kernel) rfl, g_in 113 (by decide +kernel) rfl, kX5_families, ⟨by decide +kernel, by decide +kernel, by decide +kernel⟩⟩
def mX5_fault : g_Y := (yX5_fault, cX5_fault, 1, (some .int))
set_option maxRecDepth 100000 in
theorem kX5_fault : Cond.code yX5_fault cX5_fault 1 (some .int) ∈ g_T := g_in 666 rfl rfl
theorem dX5_fault : g_MdV mX5_fault 0 := ⟨g_in 664 (by decide +kernel) rfl, g_in 665 (by decide +kernel) rfl, g_in 113 (by decide +kernel) rfl, kX5_fault, ⟨by decide +kernel, by decide +kernel, by decide +kernel⟩⟩
def mX5_feed : g_Y := (yX5_feed, cX5_feed, 6, (some .int))
set_option maxRecDepth 100000 in
theorem kX5_feed : Cond.code yX5_feed cX5_feed 6 (some .int) ∈ g_T := g_in 395 rfl rfl
theorem dX5_feed : g_MdV mX5_feed 5 := ⟨g_in 393 (by decide +kernel) rfl, g_in 394 (by decide +kernel) rfl, g_in 113 (by decide +kernel) rfl, kX5_feed, ⟨by decide +kernel, by decide +kernel, by decide +kernel⟩⟩
def mX5_fell : g_Y := (yX5_fell, cX5_fell, 1, (some .int))
set_option maxRecDepth 100000 in
theorem kX5_fell : Cond.code yX5_fell cX5_fell 1 (some .int) ∈ g_T := g_in 834 rfl rfl
theorem dX5_fell : g_MdV mX5_fell 0 := ⟨g_in 832 (by decide +kernel) rfl, g_in 833 (by decide +kernel) rfl, g_in 113 (by decide +kernel) rfl, kX5_fell, ⟨by decide +kernel, by decide +kernel, by decide +kernel⟩⟩
def mX5_fewestToFell : g_Y := (yX5_fewestToFell, cX5_fewestToFell, 4, (some .int))
set_option maxRecDepth 100000 in
theorem kX5_fewestToFell : Cond.code yX5_fewestToFell cX5_fewestToFell 4 (some .int) ∈ g_T := g_in 838 rfl rfl
theorem dX5_fewestToFell : g_MdV mX5_fewestToFell 0 := ⟨g_in 837 (by decide +kernel) rfl, g_in 38 (by decide +kernel) rfl, g_in 113 (by decide +kernel) rfl, kX5_fewestToFell, ⟨by decide +kernel, by decide +kernel, by decide +kernel⟩⟩
def mX5_fewestToPoint : g_Y := (yX5_fewestToPoint, cX5_fewestToPoint, 5, (some .int))
set_option maxRecDepth 100000 in
theorem kX5_fewestToPoint : Cond.code yX5_fewestToPoint cX5_fewestToPoint 5 (some .int) ∈ g_T := g_in 822 rfl rfl
theorem dX5_fewestToPoint : g_MdV mX5_fewestToPoint 0 := ⟨g_in 821 (by decide +kernel) rfl, g_in 37 (by decide +kernel) rfl, g_in 113 (by decide +kernel) rfl, kX5_fewestToPoint, ⟨by decide +kernel, by decide +kernel, by decide +kernel⟩⟩
def mX5_firstOut : g_Y := (yX5_firstOut, cX5_firstOut, 4, (some .int))
set_option maxRecDepth 100000 in
theorem kX5_firstOut : Cond.code yX5_firstOut cX5_firstOut 4 (some .int) ∈ g_T := g_in 992 rfl rfl
theorem dX5_firstOut : g_MdV mX5_firstOut 2 := ⟨g_in 990 (by decide +kernel) rfl, g_in 991 (by decide +kernel) rfl, g_in 113 (by decide +kernel) rfl, kX5_firstOut, ⟨by decide +kernel, by decide +kernel, by decide +kernel⟩⟩
def mX5_fitAt : g_Y := (yX5_fitAt, cX5_fitAt, 2, (some .int))
set_option maxRecDepth 100000 in
theorem kX5_fitAt : Cond.code yX5_fitAt cX5_fitAt 2 (some .int) ∈ g_T := g_in 892 rfl rfl
theorem dX5_fitAt : g_MdV mX5_fitAt 1 := ⟨g_in 890 (by decide +kernel) rfl, g_in 891 (by decide +kernel) rfl, g_in 113 (by decide +kernel) rfl, kX5_fitAt, ⟨by decide +kernel, by decide +kernel, by decide +kernel⟩⟩
def mX5_fits : g_Y := (yX5_fits, cX5_fits, 1, (some .int))
set_option maxRecDepth 100000 in
theorem kX5_fits : Cond.code yX5_fits cX5_fits 1 (some .int) ∈ g_T := g_in 888 rfl rfl
theorem dX5_fits : g_MdV mX5_fits 0 := ⟨g_in 886 (by decide +kernel) rfl, g_in 887 (by decide +kernel) rfl, g_in 113 (by decide +kernel) rfl, kX5_fits, ⟨by decide +kernel, by decide +kernel, by decide +kernel⟩⟩
def mX5_goWith : g_Y := (yX5_goWith, cX5_goWith, 2, (some .int))
set_option maxRecDepth 100000 in
theorem kX5_goWith : Cond.code yX5_goWith cX5_goWith 2 (some .int) ∈ g_T := g_in 790 rfl rfl
theorem dX5_goWith : g_MdV mX5_goWith 1 := ⟨g_in 788 (by decide +kernel) rfl, g_in 789 (by decide +kernel) rfl, g_in 113 (by decide +kernel) rfl, kX5_goWith, ⟨by decide +kernel, by decide +kernel, by decide +kernel⟩⟩
def mX5_goingWith : g_Y := (yX5_goingWith, cX5_goingWith, 2, (some .int))
set_option maxRecDepth 100000 in
theorem kX5_goingWith : Cond.code yX5_goingWith cX5_goingWith 2 (some .int) ∈ g_T := g_in 779 rfl rfl
theorem dX5_goingWith : g_MdV mX5_goingWith 1 := ⟨g_in 778 (by decide +kernel) rfl, g_in 34 (by decide +kernel) rfl, g_in 113 (by decide +kernel) rfl, kX5_goingWith, ⟨by decide +kernel, by decide +kernel, by decide +kernel⟩⟩
def mX5_granted : g_Y := (yX5_granted, cX5_granted, 2, (some .int))
set_option maxRecDepth 100000 in
theorem kX5_granted : Cond.code yX5_granted cX5_granted 2 (some .int) ∈ g_T := g_in 662 rfl rfl
theorem dX5_granted : g_MdV mX5_granted 1 := ⟨g_in 661 (by decide +kernel) rfl, g_in 30 (by decide +kernel) rfl, g_in 113 (by decide +kernel) rfl, kX5_granted, ⟨by decide +kernel, by decide +kernel, by decide +kernel⟩⟩
def mX5_has : g_Y := (yX5_has, cX5_has, 2, (some .boolean))
set_option maxRecDepth 100000 in
theorem kX5_has : Cond.code yX5_has cX5_has 2 (some .boolean) ∈ g_T := g_in 524 rfl rfl
theorem dX5_has : g_MdS mX5_has 2 := ⟨g_in 523 (by decide +kernel) rfl, g_in 113 (by decide +kernel) rfl, kX5_has, ⟨by decide +kernel, by decide +kernel, by decide +kernel⟩⟩
def mX5_house : g_Y := (yX5_house, cX5_house, 3, (some .int))
set_option maxRecDepth 100000 in
theorem kX5_house : Cond.code yX5_house cX5_house 3 (some .int) ∈ g_T := g_in 412 rfl rfl
theorem dX5_house : g_MdV mX5_house 1 := ⟨g_in 410 (by decide +kernel) rfl, g_in 411 (by decide +kernel) rfl, g_in 113 (by decide +kernel) rfl, kX5_house, ⟨by decide +kernel, by decide +kernel, by decide +kernel⟩⟩
def mX5_image : g_Y := (yX5_image, cX5_image, 2, (some .int))
set_option maxRecDepth 100000 in
theorem kX5_image : Cond.code yX5_image cX5_image 2 (some .int) ∈ g_T := g_in 1043 rfl rfl
theorem dX5_image : g_MdV mX5_image 0 := ⟨g_in 1041 (by decide +kernel) rfl, g_in 1042 (by decide +kernel) rfl, g_in 113 (by decide +kernel) rfl, kX5_image, ⟨by decide +kernel, by decide +kernel, by decide +kernel⟩⟩
def mX5_init : g_Y := (yX5_init, cX5_init, 1, none)
set_option maxRecDepth 100000 in
theorem kX5_init : Cond.code yX5_init cX5_init 1 none ∈ g_T := g_in 136 rfl rfl
theorem dX5_init : g_MdI mX5_init 0 := ⟨g_in 135 (by decide +kernel) rfl, rfl, rfl, g_in 113 (by decide +kernel) rfl, kX5_init, ⟨by decide +kernel, by decide +kernel, by decide +kernel⟩⟩
def mX5_inkRefusal : g_Y := (yX5_inkRefusal, cX5_inkRefusal, 2, (some .int))
set_option maxRecDepth 100000 in
theorem kX5_inkRefusal : Cond.code yX5_inkRefusal cX5_inkRefusal 2 (some .int) ∈ g_T := g_in 932 rfl rfl
theorem dX5_inkRefusal : g_MdV mX5_inkRefusal 1 := ⟨g_in 931 (by decide +kernel) rfl, g_in 42 (by decide +kernel) rfl, g_in 113 (by decide +kernel) rfl, kX5_inkRefusal, ⟨by decide +kernel, by decide +kernel, by decide +kernel⟩⟩
def mX5_isForeseen : g_Y := (yX5_isForeseen, cX5_isForeseen, 1, (some .boolean))
set_option maxRecDepth 100000 in
theorem kX5_isForeseen : Cond.code yX5_isForeseen cX5_isForeseen 1 (some .boolean) ∈ g_T := g_in 752 rfl rfl
theorem dX5_isForeseen : g_MdS mX5_isForeseen 1 := ⟨g_in 751 (by decide +kernel) rfl, g_in 113 (by decide +kernel) rfl, kX5_isForeseen, ⟨by decide +kernel, by decide +kernel, by decide +kernel⟩⟩
def mX5_isHouse : g_Y := (yX5_isHouse, cX5_isHouse, 1, (some .boolean))
set_option maxRecDepth 100000 in
theorem kX5_isHouse : Cond.code yX5_isHouse cX5_isHouse 1 (some .boolean) ∈ g_T := g_in 740 rfl rfl
theorem dX5_isHouse : g_MdV mX5_isHouse 0 := ⟨g_in 739 (by decide +kernel) rfl, g_in 32 (by decide +kernel) rfl, g_in 113 (by decide +kernel) rfl, kX5_isHouse, ⟨by decide +kernel, by decide +kernel, by decide +kernel⟩⟩
def mX5_isKeptBy : g_Y := (yX5_isKeptBy, cX5_isKeptBy, 4, (some .boolean))
set_option maxRecDepth 100000 in
theorem kX5_isKeptBy : Cond.code yX5_isKeptBy cX5_isKeptBy 4 (some .boolean) ∈ g_T := g_in 802 rfl rfl
theorem dX5_isKeptBy : g_MdV mX5_isKeptBy 2 := ⟨g_in 801 (by decide +kernel) rfl, g_in 36 (by decide +kernel) rfl, g_in 113 (by decide +kernel) rfl, kX5_isKeptBy, ⟨by decide +kernel, by decide +kernel, by decide +kernel⟩⟩
def mX5_isRest : g_Y := (yX5_isRest, cX5_isRest, 4, (some .boolean))
set_option maxRecDepth 100000 in
theorem kX5_isRest : Cond.code yX5_isRest cX5_isRest 4 (some .boolean) ∈ g_T := g_in 942 rfl rfl
theorem dX5_isRest : g_MdS mX5_isRest 2 := ⟨g_in 941 (by decide +kernel) rfl, g_in 113 (by decide +kernel) rfl, kX5_isRest, ⟨by decide +kernel, by decide +kernel, by decide +kernel⟩⟩
def mX5_isSeed : g_Y := (yX5_isSeed, cX5_isSeed, 1, (some .boolean))
set_option maxRecDepth 100000 in
theorem kX5_isSeed : Cond.code yX5_isSeed cX5_isSeed 1 (some .boolean) ∈ g_T := g_in 981 rfl rfl
theorem dX5_isSeed : g_MdS mX5_isSeed 1 := ⟨g_in 980 (by decide +kernel) rfl, g_in 113 (by decide +kernel) rfl, kX5_isSeed, ⟨by decide +kernel, by decide +kernel, by decide +kernel⟩⟩
def mX5_isYear : g_Y := (yX5_isYear, cX5_isYear, 1, (some .boolean))
set_option maxRecDepth 100000 in
theorem kX5_isYear : Cond.code yX5_isYear cX5_isYear 1 (some .boolean) ∈ g_T := g_in 716 rfl rfl
theorem dX5_isYear : g_MdS mX5_isYear 1 := ⟨g_in 715 (by decide +kernel) rfl, g_in 113 (by decide +kernel) rfl, kX5_isYear, ⟨by decide +kernel, by decide +kernel, by decide +kernel⟩⟩
def mX5_judge : g_Y := (yX5_judge, cX5_judge, 1, (some .int))
set_option maxRecDepth 100000 in
theorem kX5_judge : Cond.code yX5_judge cX5_judge 1 (some .int) ∈ g_T := g_in 924 rfl rfl
theorem dX5_judge : g_MdV mX5_judge 0 := ⟨g_in 922 (by decide +kernel) rfl, g_in 923 (by decide +kernel) rfl, g_in 113 (by decide +kernel) rfl, kX5_judge, ⟨by decide +kernel, by decide +kernel, by decide +kernel⟩⟩
def mX5_keep : g_Y := (yX5_keep, cX5_keep, 2, (some .int))
set_option maxRecDepth 100000 in
theorem kX5_keep : Cond.code yX5_keep cX5_keep 2 (some .int) ∈ g_T := g_in 794 rfl rfl
theorem dX5_keep : g_MdV mX5_keep 1 := ⟨g_in 792 (by decide +kernel) rfl, g_in 793 (by decide +kernel) rfl, g_in 113 (by decide +kernel) rfl, kX5_keep, ⟨by decide +kernel, by decide +kernel, by decide +kernel⟩⟩
def mX5_leastToKeep : g_Y := (yX5_leastToKeep, cX5_leastToKeep, 6, (some .int))
set_option maxRecDepth 100000 in
theorem kX5_leastToKeep : Cond.code yX5_leastToKeep cX5_leastToKeep 6 (some .int) ∈ g_T := g_in 798 rfl rfl
theorem dX5_leastToKeep : g_MdV mX5_leastToKeep 1 := ⟨g_in 797 (by decide +kernel) rfl, g_in 35 (by decide +kernel) rfl, g_in 113 (by decide +kernel) rfl, kX5_leastToKeep, ⟨by decide +kernel, by decide +kernel, by decide +kernel⟩⟩
def mX5_led : g_Y := (yX5_led, cX5_led, 3, (some .int))
set_option maxRecDepth 100000 in
theorem kX5_led : Cond.code yX5_led cX5_led 3 (some .int) ∈ g_T := g_in 1079 rfl rfl
theorem dX5_led : g_MdV mX5_led 1 := ⟨g_in 1077 (by decide +kernel) rfl, g_in 1078 (by decide +kernel) rfl, g_in 113 (by decide +kernel) rfl, kX5_led, ⟨by decide +kernel, by decide +kernel, by decide +kernel⟩⟩
def mX5_lodgers : g_Y := (yX5_lodgers, cX5_lodgers, 1, (some .int))
set_option maxRecDepth 100000 in
theorem kX5_lodgers : Cond.code yX5_lodgers cX5_lodgers 1 (some .int) ∈ g_T := g_in 736 rfl rfl
theorem dX5_lodgers : g_MdV mX5_lodgers 0 := ⟨g_in 734 (by decide +kernel) rfl, g_in 735 (by decide +kernel) rfl, g_in 113 (by decide +kernel) rfl, kX5_lodgers, ⟨by decide +kernel, by decide +kernel, by decide +kernel⟩⟩
def mX5_mean : g_Y := (yX5_mean, cX5_mean, 7, (some .long))
set_option maxRecDepth 100000 in
theorem kX5_mean : Cond.code yX5_mean cX5_mean 7 (some .long) ∈ g_T := g_in 969 rfl rfl
theorem dX5_mean : g_MdV mX5_mean 2 := ⟨g_in 967 (by decide +kernel) rfl, g_in 968 (by decide +kernel) rfl, g_in 113 (by decide +kernel) rfl, kX5_mean, ⟨by decide +kernel, by decide +kernel, by decide +kernel⟩⟩
def mX5_meaning : g_Y := (yX5_meaning, cX5_meaning, 3, (some .int))
set_option maxRecDepth 100000 in
theorem kX5_meaning : Cond.code yX5_meaning cX5_meaning 3 (some .int) ∈ g_T := g_in 696 rfl rfl
theorem dX5_meaning : g_MdV mX5_meaning 2 := ⟨g_in 694 (by decide +kernel) rfl, g_in 695 (by decide +kernel) rfl, g_in 113 (by decide +kernel) rfl, kX5_meaning, ⟨by decide +kernel, by decide +kernel, by decide +kernel⟩⟩
def mX5_mends : g_Y := (yX5_mends, cX5_mends, 6, (some .int))
set_option maxRecDepth 100000 in
theorem kX5_mends : Cond.code yX5_mends cX5_mends 6 (some .int) ∈ g_T := g_in 928 rfl rfl
theorem dX5_mends : g_MdV mX5_mends 4 := ⟨g_in 926 (by decide +kernel) rfl, g_in 927 (by decide +kernel) rfl, g_in 113 (by decide +kernel) rfl, kX5_mends, ⟨by decide +kernel, by decide +kernel, by decide +kernel⟩⟩
def mX5_misfits : g_Y := (yX5_misfits, cX5_misfits, 5, (some .int))
set_option maxRecDepth 100000 in
theorem kX5_misfits : Cond.code yX5_misfits cX5_misfits 5 (some .int) ∈ g_T := g_in 609 rfl rfl
theorem dX5_misfits : g_MdV mX5_misfits 1 := ⟨g_in 608 (by decide +kernel) rfl, g_in 28 (by decide +kernel) rfl, g_in 113 (by decide +kernel) rfl, kX5_misfits, ⟨by decide +kernel, by decide +kernel, by decide +kernel⟩⟩
def mX5_moody : g_Y := (yX5_moody, cX5_moody, 4, (some .int))
set_option maxRecDepth 100000 in
theorem kX5_moody : Cond.code yX5_moody cX5_moody 4 (some .int) ∈ g_T := g_in 978 rfl rfl
theorem dX5_moody : g_MdV mX5_moody 2 := ⟨g_in 976 (by decide +kernel) rfl, g_in 977 (by decide +kernel) rfl, g_in 113 (by decide +kernel) rfl, kX5_moody, ⟨by decide +kernel, by decide +kernel, by decide +kernel⟩⟩
def mX5_moodyYear : g_Y := (yX5_moodyYear, cX5_moodyYear, 1, (some .int))
set_option maxRecDepth 100000 in
theorem kX5_moodyYear : Cond.code yX5_moodyYear cX5_moodyYear 1 (some .int) ∈ g_T := g_in 1005 rfl rfl
theorem dX5_moodyYear : g_MdV mX5_moodyYear 0 := ⟨g_in 1003 (by decide +kernel) rfl, g_in 1004 (by decide +kernel) rfl, g_in 113 (by decide +kernel) rfl, kX5_moodyYear, ⟨by decide +kernel, by decide +kernel, by decide +kernel⟩⟩
def mX5_mostLeftBy : g_Y := (yX5_mostLeftBy, cX5_mostLeftBy, 5, (some .int))
set_option maxRecDepth 100000 in
theorem kX5_mostLeftBy : Cond.code yX5_mostLeftBy cX5_mostLeftBy 5 (some .int) ∈ g_T := g_in 915 rfl rfl
theorem dX5_mostLeftBy : g_MdV mX5_mostLeftBy 1 := ⟨g_in 914 (by decide +kernel) rfl, g_in 41 (by decide +kernel) rfl, g_in 113 (by decide +kernel) rfl, kX5_mostLeftBy, ⟨by decide +kernel, by decide +kernel, by decide +kernel⟩⟩
def mX5_nthBit : g_Y := (yX5_nthBit, cX5_nthBit, 4, (some .int))
set_option maxRecDepth 100000 in
theorem kX5_nthBit : Cond.code yX5_nthBit cX5_nthBit 4 (some .int) ∈ g_T := g_in 895 rfl rfl
theorem dX5_nthBit : g_MdS mX5_nthBit 2 := ⟨g_in 894 (by decide +kernel) rfl, g_in 113 (by decide +kernel) rfl, kX5_nthBit, ⟨by decide +kernel, by decide +kernel, by decide +kernel⟩⟩
def mX5_odds : g_Y := (yX5_odds, cX5_odds, 6, (some .long))
set_option maxRecDepth 100000 in
theorem kX5_odds : Cond.code yX5_odds cX5_odds 6 (some .long) ∈ g_T := g_in 950 rfl rfl
theorem dX5_odds : g_MdV mX5_odds 2 := ⟨g_in 948 (by decide +kernel) rfl, g_in 949 (by decide +kernel) rfl, g_in 113 (by decide +kernel) rfl, kX5_odds, ⟨by decide +kernel, by decide +kernel, by decide +kernel⟩⟩
def mX5_outIn : g_Y := (yX5_outIn, cX5_outIn, 2, (some .int))
set_option maxRecDepth 100000 in
theorem kX5_outIn : Cond.code yX5_outIn cX5_outIn 2 (some .int) ∈ g_T := g_in 763 rfl rfl
theorem dX5_outIn : g_MdV mX5_outIn 1 := ⟨g_in 761 (by decide +kernel) rfl, g_in 762 (by decide +kernel) rfl, g_in 113 (by decide +kernel) rfl, kX5_outIn, ⟨by decide +kernel, by decide +kernel, by decide +kernel⟩⟩
def mX5_pays : g_Y := (yX5_pays, cX5_pays, 3, (some .int))
set_option maxRecDepth 100000 in
theorem kX5_pays : Cond.code yX5_pays cX5_pays 3 (some .int) ∈ g_T := g_in 731 rfl rfl
theorem dX5_pays : g_MdV mX5_pays 2 := ⟨g_in 729 (by decide +kernel) rfl, g_in 730 (by decide +kernel) rfl, g_in 113 (by decide +kernel) rfl, kX5_pays, ⟨by decide +kernel, by decide +kernel, by decide +kernel⟩⟩
def mX5_pillar : g_Y := (yX5_pillar, cX5_pillar, 5, (some .int))
set_option maxRecDepth 100000 in
theorem kX5_pillar : Cond.code yX5_pillar cX5_pillar 5 (some .int) ∈ g_T := g_in 775 rfl rfl
theorem dX5_pillar : g_MdV mX5_pillar 0 := ⟨g_in 773 (by decide +kernel) rfl, g_in 774 (by decide +kernel) rfl, g_in 113 (by decide +kernel) rfl, kX5_pillar, ⟨by decide +kernel, by decide +kernel, by decide +kernel⟩⟩
def mX5_point : g_Y := (yX5_point, cX5_point, 1, (some .int))
set_option maxRecDepth 100000 in
theorem kX5_point : Cond.code yX5_point cX5_point 1 (some .int) ∈ g_T := g_in 818 rfl rfl
theorem dX5_point : g_MdV mX5_point 0 := ⟨g_in 816 (by decide +kernel) rfl, g_in 817 (by decide +kernel) rfl, g_in 113 (by decide +kernel) rfl, kX5_point, ⟨by decide +kernel, by decide +kernel, by decide +kernel⟩⟩
def mX5_ratio : g_Y := (yX5_ratio, cX5_ratio, 7, (some .long))
set_option maxRecDepth 100000 in
theorem kX5_ratio : Cond.code yX5_ratio cX5_ratio 7 (some .long) ∈ g_T := g_in 962 rfl rfl
theorem dX5_ratio : g_MdS mX5_ratio 3 := ⟨g_in 961 (by decide +kernel) rfl, g_in 113 (by decide +kernel) rfl, kX5_ratio, ⟨by decide +kernel, by decide +kernel, by decide +kernel⟩⟩
def mX5_refused : g_Y := (yX5_refused, cX5_refused, 2, (some .int))
set_option maxRecDepth 100000 in
theorem kX5_refused : Cond.code yX5_refused cX5_refused 2 (some .int) ∈ g_T := g_in 416 rfl rfl
theorem dX5_refused : g_MdV mX5_refused 1 := ⟨g_in 415 (by decide +kernel) rfl, g_in 0 (by decide +kernel) rfl, g_in 113 (by decide +kernel) rfl, kX5_refused, ⟨by decide +kernel, by decide +kernel, by decide +kernel⟩⟩
def mX5_rest : g_Y := (yX5_rest, cX5_rest, 4, (some .int))
set_option maxRecDepth 100000 in
theorem kX5_rest : Cond.code yX5_rest cX5_rest 4 (some .int) ∈ g_T := g_in 946 rfl rfl
theorem dX5_rest : g_MdV mX5_rest 1 := ⟨g_in 944 (by decide +kernel) rfl, g_in 945 (by decide +kernel) rfl, g_in 113 (by decide +kernel) rfl, kX5_rest, ⟨by decide +kernel, by decide +kernel, by decide +kernel⟩⟩
def mX5_rests : g_Y := (yX5_rests, cX5_rests, 5, (some .int))
set_option maxRecDepth 100000 in
theorem kX5_rests : Cond.code yX5_rests cX5_rests 5 (some .int) ∈ g_T := g_in 939 rfl rfl
theorem dX5_rests : g_MdV mX5_rests 1 := ⟨g_in 937 (by decide +kernel) rfl, g_in 938 (by decide +kernel) rfl, g_in 113 (by decide +kernel) rfl, kX5_rests, ⟨by decide +kernel, by decide +kernel, by decide +kernel⟩⟩
def mX5_rings : g_Y := (yX5_rings, cX5_rings, 1, (some .int))
set_option maxRecDepth 100000 in
theorem kX5_rings : Cond.code yX5_rings cX5_rings 1 (some .int) ∈ g_T := g_in 810 rfl rfl
theorem dX5_rings : g_MdV mX5_rings 0 := ⟨g_in 808 (by decide +kernel) rfl, g_in 809 (by decide +kernel) rfl, g_in 113 (by decide +kernel) rfl, kX5_rings, ⟨by decide +kernel, by decide +kernel, by decide +kernel⟩⟩
def mX5_roots : g_Y := (yX5_roots, cX5_roots, 2, (some .int))
set_option maxRecDepth 100000 in
theorem kX5_roots : Cond.code yX5_roots cX5_roots 2 (some .int) ∈ g_T := g_in 842 rfl rfl
theorem dX5_roots : g_MdV mX5_roots 1 := ⟨g_in 840 (by decide +kernel) rfl, g_in 841 (by decide +kernel) rfl, g_in 113 (by decide +kernel) rfl, kX5_roots, ⟨by decide +kernel, by decide +kernel, by decide +kernel⟩⟩
def mX5_say : g_Y := (yX5_say, cX5_say, 3, (some .int))
set_option maxRecDepth 100000 in
theorem kX5_say : Cond.code yX5_say cX5_say 3 (some .int) ∈ g_T := g_in 1009 rfl rfl
theorem dX5_say : g_MdV mX5_say 2 := ⟨g_in 1007 (by decide +kernel) rfl, g_in 1008 (by decide +kernel) rfl, g_in 113 (by decide +kernel) rfl, kX5_say, ⟨by decide +kernel, by decide +kernel, by decide +kernel⟩⟩
def mX5_saysIn : g_Y := (yX5_saysIn, cX5_saysIn, 5, (some .int))
set_option maxRecDepth 100000 in
theorem kX5_saysIn : Cond.code yX5_saysIn cX5_saysIn 5 (some .int) ∈ g_T := g_in 713 rfl rfl
theorem dX5_saysIn : g_MdV mX5_saysIn 3 := ⟨g_in 711 (by decide +kernel) rfl, g_in 712 (by decide +kernel) rfl, g_in 113 (by decide +kernel) rfl, kX5_saysIn, ⟨by decide +kernel, by decide +kernel, by decide +kernel⟩⟩
def mX5_seed : g_Y := (yX5_seed, cX5_seed, 2, (some .boolean))
set_option maxRecDepth 100000 in
theorem kX5_seed : Cond.code yX5_seed cX5_seed 2 (some .boolean) ∈ g_T := g_in 1031 rfl rfl
theorem dX5_seed : g_MdV mX5_seed 1 := ⟨g_in 1029 (by decide +kernel) rfl, g_in 1030 (by decide +kernel) rfl, g_in 113 (by decide +kernel) rfl, kX5_seed, ⟨by decide +kernel, by decide +kernel, by decide +kernel⟩⟩
def mX5_setsThatFit : g_Y := (yX5_setsThatFit, cX5_setsThatFit, 3, (some .int))
set_option maxRecDepth 100000 in
theorem kX5_setsThatFit : Cond.code yX5_setsThatFit cX5_setsThatFit 3 (some .int) ∈ g_T := g_in 605 rfl rfl
theorem dX5_setsThatFit : g_MdV mX5_setsThatFit 0 := ⟨g_in 604 (by decide +kernel) rfl, g_in 27 (by decide +kernel) rfl, g_in 113 (by decide +kernel) rfl, kX5_setsThatFit, ⟨by decide +kernel, by decide +kernel, by decide +kernel⟩⟩
def mX5_share : g_Y := (yX5_share, cX5_share, 3, (some .int))
set_option maxRecDepth 100000 in
theorem kX5_share : Cond.code yX5_share cX5_share 3 (some .int) ∈ g_T := g_in 935 rfl rfl
theorem dX5_share : g_MdS mX5_share 3 := ⟨g_in 934 (by decide +kernel) rfl, g_in 113 (by decide +kernel) rfl, kX5_share, ⟨by decide +kernel, by decide +kernel, by decide +kernel⟩⟩
def mX5_size : g_Y := (yX5_size, cX5_size, 2, (some .int))
set_option maxRecDepth 100000 in
theorem kX5_size : Cond.code yX5_size cX5_size 2 (some .int) ∈ g_T := g_in 1059 rfl rfl
theorem dX5_size : g_MdV mX5_size 1 := ⟨g_in 1057 (by decide +kernel) rfl, g_in 1058 (by decide +kernel) rfl, g_in 113 (by decide +kernel) rfl, kX5_size, ⟨by decide +kernel, by decide +kernel, by decide +kernel⟩⟩
def mX5_speaker : g_Y := (yX5_speaker, cX5_speaker, 3, (some .int))
set_option maxRecDepth 100000 in
theorem kX5_speaker : Cond.code yX5_speaker cX5_speaker 3 (some .int) ∈ g_T := g_in 704 rfl rfl
theorem dX5_speaker : g_MdV mX5_speaker 2 := ⟨g_in 702 (by decide +kernel) rfl, g_in 703 (by decide +kernel) rfl, g_in 113 (by decide +kernel) rfl, kX5_speaker, ⟨by decide +kernel, by decide +kernel, by decide +kernel⟩⟩
def mX5_stays : g_Y := (yX5_stays, cX5_stays, 6, (some .long))
set_option maxRecDepth 100000 in
theorem kX5_stays : Cond.code yX5_stays cX5_stays 6 (some .long) ∈ g_T := g_in 974 rfl rfl
theorem dX5_stays : g_MdV mX5_stays 2 := ⟨g_in 972 (by decide +kernel) rfl, g_in 973 (by decide +kernel) rfl, g_in 113 (by decide +kernel) rfl, kX5_stays, ⟨by decide +kernel, by decide +kernel, by decide +kernel⟩⟩
def mX5_surely : g_Y := (yX5_surely, cX5_surely, 3, (some .int))
set_option maxRecDepth 100000 in
theorem kX5_surely : Cond.code yX5_surely cX5_surely 3 (some .int) ∈ g_T := g_in 903 rfl rfl
theorem dX5_surely : g_MdV mX5_surely 0 := ⟨g_in 901 (by decide +kernel) rfl, g_in 902 (by decide +kernel) rfl, g_in 113 (by decide +kernel) rfl, kX5_surely, ⟨by decide +kernel, by decide +kernel, by decide +kernel⟩⟩
def mX5_take : g_Y := (yX5_take, cX5_take, 2, (some .boolean))
set_option maxRecDepth 100000 in
theorem kX5_take : Cond.code yX5_take cX5_take 2 (some .boolean) ∈ g_T := g_in 1018 rfl rfl
theorem dX5_take : g_MdV mX5_take 1 := ⟨g_in 1016 (by decide +kernel) rfl, g_in 1017 (by decide +kernel) rfl, g_in 113 (by decide +kernel) rfl, kX5_take, ⟨by decide +kernel, by decide +kernel, by decide +kernel⟩⟩
def mX5_trouble : g_Y := (yX5_trouble, cX5_trouble, 1, (some .int))
set_option maxRecDepth 100000 in
theorem kX5_trouble : Cond.code yX5_trouble cX5_trouble 1 (some .int) ∈ g_T := g_in 1071 rfl rfl
theorem dX5_trouble : g_MdV mX5_trouble 0 := ⟨g_in 1069 (by decide +kernel) rfl, g_in 1070 (by decide +kernel) rfl, g_in 113 (by decide +kernel) rfl, kX5_trouble, ⟨by decide +kernel, by decide +kernel, by decide +kernel⟩⟩
def mX5_twins : g_Y := (yX5_twins, cX5_twins, 6, (some .int))
set_option maxRecDepth 100000 in
theorem kX5_twins : Cond.code yX5_twins cX5_twins 6 (some .int) ∈ g_T := g_in 864 rfl rfl
theorem dX5_twins : g_MdV mX5_twins 0 := ⟨g_in 862 (by decide +kernel) rfl, g_in 863 (by decide +kernel) rfl, g_in 113 (by decide +kernel) rfl, kX5_twins, ⟨by decide +kernel, by decide +kernel, by decide +kernel⟩⟩
def mX5_undo : g_Y := (yX5_undo, cX5_undo, 1, (some .boolean))
set_option maxRecDepth 100000 in
theorem kX5_undo : Cond.code yX5_undo cX5_undo 1 (some .boolean) ∈ g_T := g_in 1035 rfl rfl
theorem dX5_undo : g_MdV mX5_undo 0 := ⟨g_in 1033 (by decide +kernel) rfl, g_in 1034 (by decide +kernel) rfl, g_in 113 (by decide +kernel) rfl, kX5_undo, ⟨by decide +kernel, by decide +kernel, by decide +kernel⟩⟩
def mX5_uses : g_Y := (yX5_uses, cX5_uses, 3, (some .int))
set_option maxRecDepth 100000 in
theorem kX5_uses : Cond.code yX5_uses cX5_uses 3 (some .int) ∈ g_T := g_in 722 rfl rfl
theorem dX5_uses : g_MdV mX5_uses 2 := ⟨g_in 720 (by decide +kernel) rfl, g_in 721 (by decide +kernel) rfl, g_in 113 (by decide +kernel) rfl, kX5_uses, ⟨by decide +kernel, by decide +kernel, by decide +kernel⟩⟩
def mX5_where : g_Y := (yX5_where, cX5_where, 1, (some .int))
set_option maxRecDepth 100000 in
theorem kX5_where : Cond.code yX5_where cX5_where 1 (some .int) ∈ g_T := g_in 674 rfl rfl
theorem dX5_where : g_MdV mX5_where 0 := ⟨g_in 672 (by decide +kernel) rfl, g_in 673 (by decide +kernel) rfl, g_in 113 (by decide +kernel) rfl, kX5_where, ⟨by decide +kernel, by decide +kernel, by decide +kernel⟩⟩
def mX5_year : g_Y := (yX5_year, cX5_year, 1, (some .int))
set_option maxRecDepth 100000 in
theorem kX5_year : Cond.code yX5_year cX5_year 1 (some .int) ∈ g_T := g_in 996 rfl rfl
theorem dX5_year : g_MdV mX5_year 0 := ⟨g_in 994 (by decide +kernel) rfl, g_in 995 (by decide +kernel) rfl, g_in 113 (by decide +kernel) rfl, kX5_year, ⟨by decide +kernel, by decide +kernel, by decide +kernel⟩⟩
def mX5_yearsUntilOut : g_Y := (yX5_yearsUntilOut, cX5_yearsUntilOut, 3, (some .int))
set_option maxRecDepth 100000 in
theorem kX5_yearsUntilOut : Cond.code yX5_yearsUntilOut cX5_yearsUntilOut 3 (some .int) ∈ g_T := g_in 767 rfl rfl
theorem dX5_yearsUntilOut : g_MdV mX5_yearsUntilOut 1 := ⟨g_in 766 (by decide +kernel) rfl, g_in 33 (by decide +kernel) rfl, g_in 113 (by decide +kernel) rfl, kX5_yearsUntilOut, ⟨by decide +kernel, by decide +kernel, by decide +kernel⟩⟩
def mX6_find : g_Y := (yX6_find, cX6_find, 4, (some .int))
set_option maxRecDepth 100000 in
theorem kX6_find : Cond.code yX6_find cX6_find 4 (some .int) ∈ g_T := g_in 1477 rfl rfl
theorem dX6_find : g_MdV mX6_find 1 := ⟨g_in 1475 (by decide +kernel) rfl, g_in 1476 (by decide +kernel) rfl, g_in 121 (by decide +kernel) rfl, kX6_find, ⟨by decide +kernel, by decide +kernel, by decide +kernel⟩⟩
def mX6_init : g_Y := (yX6_init, cX6_init, 1, none)
set_option maxRecDepth 100000 in
theorem kX6_init : Cond.code yX6_init cX6_init 1 none ∈ g_T := g_in 1258 rfl rfl
theorem dX6_init : g_MdI mX6_init 0 := ⟨g_in 1257 (by decide +kernel) rfl, rfl, rfl, g_in 121 (by decide +kernel) rfl, kX6_init, ⟨by decide +kernel, by decide +kernel, by decide +kernel⟩⟩
def mX6_isUnsure : g_Y := (yX6_isUnsure, cX6_isUnsure, 3, (some .boolean))
set_option maxRecDepth 100000 in
theorem kX6_isUnsure : Cond.code yX6_isUnsure cX6_isUnsure 3 (some .boolean) ∈ g_T := g_in 1529 rfl rfl
theorem dX6_isUnsure : g_MdV mX6_isUnsure 1 := ⟨g_in 1527 (by decide +kernel) rfl, g_in 1528 (by decide +kernel) rfl, g_in 121 (by decide +kernel) rfl, kX6_isUnsure, ⟨by decide +kernel, by decide +kernel, by decide +kernel⟩⟩
def mX6_saying : g_Y := (yX6_saying, cX6_saying, 4, (some .int))
set_option maxRecDepth 100000 in
theorem kX6_saying : Cond.code yX6_saying cX6_saying 4 (some .int) ∈ g_T := g_in 1520 rfl rfl
theorem dX6_saying : g_MdV mX6_saying 2 := ⟨g_in 1518 (by decide +kernel) rfl, g_in 1519 (by decide +kernel) rfl, g_in 121 (by decide +kernel) rfl, kX6_saying, ⟨by decide +kernel, by decide +kernel, by decide +kernel⟩⟩
def mX7_aMoodyYear : g_Y := (yX7_aMoodyYear, cX7_aMoodyYear, 2, (some .int))
set_option maxRecDepth 100000 in
theorem kX7_aMoodyYear : Cond.code yX7_aMoodyYear cX7_aMoodyYear 2 (some .int) ∈ g_T := g_in 1860 rfl rfl
theorem dX7_aMoodyYear : g_MdV mX7_aMoodyYear 0 := ⟨g_in 1859 (by decide +kernel) rfl, g_in 106 (by decide +kernel) rfl, g_in 119 (by decide +kernel) rfl, kX7_aMoodyYear, ⟨by decide +kernel, by decide +kernel, by decide +kernel⟩⟩
def mX7_aYear : g_Y := (yX7_aYear, cX7_aYear, 5, (some .int))
set_option maxRecDepth 100000 in
theorem kX7_aYear : Cond.code yX7_aYear cX7_aYear 5 (some .int) ∈ g_T := g_in 1634 rfl rfl
theorem dX7_aYear : g_MdV mX7_aYear 0 := ⟨g_in 1633 (by decide +kernel) rfl, g_in 83 (by decide +kernel) rfl, g_in 119 (by decide +kernel) rfl, kX7_aYear, ⟨by decide +kernel, by decide +kernel, by decide +kernel⟩⟩
def mX7_after : g_Y := (yX7_after, cX7_after, 3, (some .int))
set_option maxRecDepth 100000 in
theorem kX7_after : Cond.code yX7_after cX7_after 3 (some .int) ∈ g_T := g_in 1630 rfl rfl
theorem dX7_after : g_MdV mX7_after 1 := ⟨g_in 1628 (by decide +kernel) rfl, g_in 1629 (by decide +kernel) rfl, g_in 119 (by decide +kernel) rfl, kX7_after, ⟨by decide +kernel, by decide +kernel, by decide +kernel⟩⟩
def mX7_all : g_Y := (yX7_all, cX7_all, 1, (some .int))
set_option maxRecDepth 100000 in
theorem kX7_all : Cond.code yX7_all cX7_all 1 (some .int) ∈ g_T := g_in 1542 rfl rfl
theorem dX7_all : g_MdV mX7_all 0 := ⟨g_in 1541 (by decide +kernel) rfl, g_in 71 (by decide +kernel) rfl, g_in 119 (by decide +kernel) rfl, kX7_all, ⟨by decide +kernel, by decide +kernel, by decide +kernel⟩⟩
def mX7_apart : g_Y := (yX7_apart, cX7_apart, 3, (some .int))
set_option maxRecDepth 100000 in
theorem kX7_apart : Cond.code yX7_apart cX7_apart 3 (some .int) ∈ g_T := g_in 1725 rfl rfl
theorem dX7_apart : g_MdV mX7_apart 2 := ⟨g_in 1723 (by decide +kernel) rfl, g_in 1724 (by decide +kernel) rfl, g_in 119 (by decide +kernel) rfl, kX7_apart, ⟨by decide +kernel, by decide +kernel, by decide +kernel⟩⟩
def mX7_asTold : g_Y := (yX7_asTold, cX7_asTold, 2, none)
set_option maxRecDepth 100000 in
theorem kX7_asTold : Cond.code yX7_asTold cX7_asTold 2 none ∈ g_T := g_in 1538 rfl rfl
theorem dX7_asTold : g_MdV mX7_asTold 0 := ⟨g_in 1537 (by decide +kernel) rfl, g_in 70 (by decide +kernel) rfl, g_in 119 (by decide +kernel) rfl, kX7_asTold, ⟨by decide +kernel, by decide +kernel, by decide +kernel⟩⟩
def mX7_ask : g_Y := (yX7_ask, cX7_ask, 1, (some .int))
set_option maxRecDepth 100000 in
theorem kX7_ask : Cond.code yX7_ask cX7_ask 1 (some .int) ∈ g_T := g_in 1781 rfl rfl
theorem dX7_ask : g_MdV mX7_ask 0 := ⟨g_in 1779 (by decide +kernel) rfl, g_in 1780 (by decide +kernel) rfl, g_in 119 (by decide +kernel) rfl, kX7_ask, ⟨by decide +kernel, by decide +kernel, by decide +kernel⟩⟩
def mX7_askLeaves : g_Y := (yX7_askLeaves, cX7_askLeaves, 1, (some .int))
set_option maxRecDepth 100000 in
theorem kX7_askLeaves : Cond.code yX7_askLeaves cX7_askLeaves 1 (some .int) ∈ g_T := g_in 1789 rfl rfl
theorem dX7_askLeaves : g_MdV mX7_askLeaves 0 := ⟨g_in 1787 (by decide +kernel) rfl, g_in 1788 (by decide +kernel) rfl, g_in 119 (by decide +kernel) rfl, kX7_askLeaves, ⟨by decide +kernel, by decide +kernel, by decide +kernel⟩⟩
def mX7_asks : g_Y := (yX7_asks, cX7_asks, 4, (some .int))
set_option maxRecDepth 100000 in
theorem kX7_asks : Cond.code yX7_asks cX7_asks 4 (some .int) ∈ g_T := g_in 1785 rfl rfl
theorem dX7_asks : g_MdV mX7_asks 0 := ⟨g_in 1784 (by decide +kernel) rfl, g_in 99 (by decide +kernel) rfl, g_in 119 (by decide +kernel) rfl, kX7_asks, ⟨by decide +kernel, by decide +kernel, by decide +kernel⟩⟩
def mX7_back : g_Y := (yX7_back, cX7_back, 3, (some .boolean))
set_option maxRecDepth 100000 in
theorem kX7_back : Cond.code yX7_back cX7_back 3 (some .boolean) ∈ g_T := g_in 1923 rfl rfl
theorem dX7_back : g_MdV mX7_back 1 := ⟨g_in 1921 (by decide +kernel) rfl, g_in 1922 (by decide +kernel) rfl, g_in 119 (by decide +kernel) rfl, kX7_back, ⟨by decide +kernel, by decide +kernel, by decide +kernel⟩⟩
def mX7_between : g_Y := (yX7_between, cX7_between, 7, (some .int))
set_option maxRecDepth 100000 in
theorem kX7_between : Cond.code yX7_between cX7_between 7 (some .int) ∈ g_T := g_in 1729 rfl rfl
theorem dX7_between : g_MdV mX7_between 2 := ⟨g_in 1728 (by decide +kernel) rfl, g_in 93 (by decide +kernel) rfl, g_in 119 (by decide +kernel) rfl, kX7_between, ⟨by decide +kernel, by decide +kernel, by decide +kernel⟩⟩
def mX7_bit : g_Y := (yX7_bit, cX7_bit, 2, (some .boolean))
set_option maxRecDepth 100000 in
theorem kX7_bit : Cond.code yX7_bit cX7_bit 2 (some .boolean) ∈ g_T := g_in 1493 rfl rfl
theorem dX7_bit : g_MdS mX7_bit 2 := ⟨g_in 1492 (by decide +kernel) rfl, g_in 119 (by decide +kernel) rfl, kX7_bit, ⟨by decide +kernel, by decide +kernel, by decide +kernel⟩⟩
def mX7_bits : g_Y := (yX7_bits, cX7_bits, 3, (some .int))
set_option maxRecDepth 100000 in
theorem kX7_bits : Cond.code yX7_bits cX7_bits 3 (some .int) ∈ g_T := g_in 1665 rfl rfl
theorem dX7_bits : g_MdS mX7_bits 1 := ⟨g_in 1664 (by decide +kernel) rfl, g_in 119 (by decide +kernel) rfl, kX7_bits, ⟨by decide +kernel, by decide +kernel, by decide +kernel⟩⟩
def mX7_byteAt : g_Y := (yX7_byteAt, cX7_byteAt, 2, (some .int))
set_option maxRecDepth 100000 in
theorem kX7_byteAt : Cond.code yX7_byteAt cX7_byteAt 2 (some .int) ∈ g_T := g_in 1358 rfl rfl
theorem dX7_byteAt : g_MdV mX7_byteAt 1 := ⟨g_in 1357 (by decide +kernel) rfl, g_in 48 (by decide +kernel) rfl, g_in 119 (by decide +kernel) rfl, kX7_byteAt, ⟨by decide +kernel, by decide +kernel, by decide +kernel⟩⟩
def mX7_chime : g_Y := (yX7_chime, cX7_chime, 3, (some .int))
set_option maxRecDepth 100000 in
theorem kX7_chime : Cond.code yX7_chime cX7_chime 3 (some .int) ∈ g_T := g_in 1745 rfl rfl
theorem dX7_chime : g_MdV mX7_chime 2 := ⟨g_in 1743 (by decide +kernel) rfl, g_in 1744 (by decide +kernel) rfl, g_in 119 (by decide +kernel) rfl, kX7_chime, ⟨by decide +kernel, by decide +kernel, by decide +kernel⟩⟩
def mX7_circular : g_Y := (yX7_circular, cX7_circular, 2, (some .int))
set_option maxRecDepth 100000 in
theorem kX7_circular : Cond.code yX7_circular cX7_circular 2 (some .int) ∈ g_T := g_in 1721 rfl rfl
theorem dX7_circular : g_MdV mX7_circular 1 := ⟨g_in 1719 (by decide +kernel) rfl, g_in 1720 (by decide +kernel) rfl, g_in 119 (by decide +kernel) rfl, kX7_circular, ⟨by decide +kernel, by decide +kernel, by decide +kernel⟩⟩
def mX7_common : g_Y := (yX7_common, cX7_common, 10, (some .long))
set_option maxRecDepth 100000 in
theorem kX7_common : Cond.code yX7_common cX7_common 10 (some .long) ∈ g_T := g_in 1839 rfl rfl
theorem dX7_common : g_MdS mX7_common 2 := ⟨g_in 1838 (by decide +kernel) rfl, g_in 119 (by decide +kernel) rfl, kX7_common, ⟨by decide +kernel, by decide +kernel, by decide +kernel⟩⟩
def mX7_could : g_Y := (yX7_could, cX7_could, 1, (some .int))
set_option maxRecDepth 100000 in
theorem kX7_could : Cond.code yX7_could cX7_could 1 (some .int) ∈ g_T := g_in 1773 rfl rfl
theorem dX7_could : g_MdV mX7_could 0 := ⟨g_in 1771 (by decide +kernel) rfl, g_in 1772 (by decide +kernel) rfl, g_in 119 (by decide +kernel) rfl, kX7_could, ⟨by decide +kernel, by decide +kernel, by decide +kernel⟩⟩
def mX7_dearest : g_Y := (yX7_dearest, cX7_dearest, 5, (some .int))
set_option maxRecDepth 100000 in
theorem kX7_dearest : Cond.code yX7_dearest cX7_dearest 5 (some .int) ∈ g_T := g_in 1685 rfl rfl
theorem dX7_dearest : g_MdV mX7_dearest 0 := ⟨g_in 1683 (by decide +kernel) rfl, g_in 1684 (by decide +kernel) rfl, g_in 119 (by decide +kernel) rfl, kX7_dearest, ⟨by decide +kernel, by decide +kernel, by decide +kernel⟩⟩
def mX7_debtors : g_Y := (yX7_debtors, cX7_debtors, 1, (some .int))
set_option maxRecDepth 100000 in
theorem kX7_debtors : Cond.code yX7_debtors cX7_debtors 1 (some .int) ∈ g_T := g_in 1622 rfl rfl
theorem dX7_debtors : g_MdV mX7_debtors 0 := ⟨g_in 1620 (by decide +kernel) rfl, g_in 1621 (by decide +kernel) rfl, g_in 119 (by decide +kernel) rfl, kX7_debtors, ⟨by decide +kernel, by decide +kernel, by decide +kernel⟩⟩
def mX7_debts : g_Y := (yX7_debts, cX7_debts, 4, (some .int))
set_option maxRecDepth 100000 in
theorem kX7_debts : Cond.code yX7_debts cX7_debts 4 (some .int) ∈ g_T := g_in 1626 rfl rfl
theorem dX7_debts : g_MdV mX7_debts 1 := ⟨g_in 1625 (by decide +kernel) rfl, g_in 82 (by decide +kernel) rfl, g_in 119 (by decide +kernel) rfl, kX7_debts, ⟨by decide +kernel, by decide +kernel, by decide +kernel⟩⟩
def mX7_deepens : g_Y := (yX7_deepens, cX7_deepens, 5, none)
set_option maxRecDepth 100000 in
theorem kX7_deepens : Cond.code yX7_deepens cX7_deepens 5 none ∈ g_T := g_in 1705 rfl rfl
theorem dX7_deepens : g_MdV mX7_deepens 2 := ⟨g_in 1704 (by decide +kernel) rfl, g_in 91 (by decide +kernel) rfl, g_in 119 (by decide +kernel) rfl, kX7_deepens, ⟨by decide +kernel, by decide +kernel, by decide +kernel⟩⟩
def mX7_denied : g_Y := (yX7_denied, cX7_denied, 2, (some .boolean))
set_option maxRecDepth 100000 in
theorem kX7_denied : Cond.code yX7_denied cX7_denied 2 (some .boolean) ∈ g_T := g_in 1903 rfl rfl
theorem dX7_denied : g_MdV mX7_denied 1 := ⟨g_in 1902 (by decide +kernel) rfl, g_in 110 (by decide +kernel) rfl, g_in 119 (by decide +kernel) rfl, kX7_denied, ⟨by decide +kernel, by decide +kernel, by decide +kernel⟩⟩
def mX7_depth : g_Y := (yX7_depth, cX7_depth, 5, (some .int))
set_option maxRecDepth 100000 in
theorem kX7_depth : Cond.code yX7_depth cX7_depth 5 (some .int) ∈ g_T := g_in 1701 rfl rfl
theorem dX7_depth : g_MdV mX7_depth 1 := ⟨g_in 1699 (by decide +kernel) rfl, g_in 1700 (by decide +kernel) rfl, g_in 119 (by decide +kernel) rfl, kX7_depth, ⟨by decide +kernel, by decide +kernel, by decide +kernel⟩⟩
def mX7_eats : g_Y := (yX7_eats, cX7_eats, 3, (some .boolean))
set_option maxRecDepth 100000 in
theorem kX7_eats : Cond.code yX7_eats cX7_eats 3 (some .boolean) ∈ g_T := g_in 1497 rfl rfl
theorem dX7_eats : g_MdV mX7_eats 1 := ⟨g_in 1496 (by decide +kernel) rfl, g_in 63 (by decide +kernel) rfl, g_in 119 (by decide +kernel) rfl, kX7_eats, ⟨by decide +kernel, by decide +kernel, by decide +kernel⟩⟩
def mX7_emptyIn : g_Y := (yX7_emptyIn, cX7_emptyIn, 2, (some .int))
set_option maxRecDepth 100000 in
theorem kX7_emptyIn : Cond.code yX7_emptyIn cX7_emptyIn 2 (some .int) ∈ g_T := g_in 1654 rfl rfl
theorem dX7_emptyIn : g_MdV mX7_emptyIn 0 := ⟨g_in 1652 (by decide +kernel) rfl, g_in 1653 (by decide +kernel) rfl, g_in 119 (by decide +kernel) rfl, kX7_emptyIn, ⟨by decide +kernel, by decide +kernel, by decide +kernel⟩⟩
def mX7_entry : g_Y := (yX7_entry, cX7_entry, 3, (some .int))
set_option maxRecDepth 100000 in
theorem kX7_entry : Cond.code yX7_entry cX7_entry 3 (some .int) ∈ g_T := g_in 1558 rfl rfl
theorem dX7_entry : g_MdV mX7_entry 2 := ⟨g_in 1556 (by decide +kernel) rfl, g_in 1557 (by decide +kernel) rfl, g_in 119 (by decide +kernel) rfl, kX7_entry, ⟨by decide +kernel, by decide +kernel, by decide +kernel⟩⟩
def mX7_evict : g_Y := (yX7_evict, cX7_evict, 4, (some .int))
set_option maxRecDepth 100000 in
theorem kX7_evict : Cond.code yX7_evict cX7_evict 4 (some .int) ∈ g_T := g_in 1895 rfl rfl
theorem dX7_evict : g_MdV mX7_evict 1 := ⟨g_in 1893 (by decide +kernel) rfl, g_in 1894 (by decide +kernel) rfl, g_in 119 (by decide +kernel) rfl, kX7_evict, ⟨by decide +kernel, by decide +kernel, by decide +kernel⟩⟩
def mX7_explainedBy : g_Y := (yX7_explainedBy, cX7_explainedBy, 5, (some .int))
set_option maxRecDepth 100000 in
theorem kX7_explainedBy : Cond.code yX7_explainedBy cX7_explainedBy 5 (some .int) ∈ g_T := g_in 1566 rfl rfl
theorem dX7_explainedBy : g_MdV mX7_explainedBy 1 := ⟨g_in 1565 (by decide +kernel) rfl, g_in 74 (by decide +kernel) rfl, g_in 119 (by decide +kernel) rfl, kX7_explainedBy, ⟨by decide +kernel, by decide +kernel, by decide +kernel⟩⟩
def mX7_families : g_Y := (yX7_families, cX7_families, 5, (some .int))
set_option maxRecDepth 100000 in
theorem kX7_families : Cond.code yX7_families cX7_families 5 (some .int) ∈ g_T := g_in 1753 rfl rfl
theorem dX7_families : g_MdV mX7_families 0 := ⟨g_in 1751 (by decide +kernel) rfl, g_in 1752 (by decide +kernel) rfl, g_in 119 (by decide +kernel) rfl, kX7_families, ⟨by decide +kernel, by decide +kernel, by decide +kernel⟩⟩
def mX7_fault : g_Y := (yX7_fault, cX7_fault, 1, (some .int))
set_option maxRecDepth 100000 in
theorem kX7_fault : Cond.code yX7_fault cX7_fault 1 (some .int) ∈ g_T := g_in 1550 rfl rfl
theorem dX7_fault : g_MdV mX7_fault 0 := ⟨g_in 1548 (by decide +kernel) rfl, g_in 1549 (by decide +kernel) rfl, g_in 119 (by decide +kernel) rfl, kX7_fault, ⟨by decide +kernel, by decide +kernel, by decide +kernel⟩⟩
def mX7_feed : g_Y := (yX7_feed, cX7_feed, 8, (some .int))
set_option maxRecDepth 100000 in
theorem kX7_feed : Cond.code yX7_feed cX7_feed 8 (some .int) ∈ g_T := g_in 1245 rfl rfl
theorem dX7_feed : g_MdV mX7_feed 5 := ⟨g_in 1243 (by decide +kernel) rfl, g_in 1244 (by decide +kernel) rfl, g_in 119 (by decide +kernel) rfl, kX7_feed, ⟨by decide +kernel, by decide +kernel, by decide +kernel⟩⟩
def mX7_fell : g_Y := (yX7_fell, cX7_fell, 3, (some .int))
set_option maxRecDepth 100000 in
theorem kX7_fell : Cond.code yX7_fell cX7_fell 3 (some .int) ∈ g_T := g_in 1709 rfl rfl
theorem dX7_fell : g_MdV mX7_fell 0 := ⟨g_in 1707 (by decide +kernel) rfl, g_in 1708 (by decide +kernel) rfl, g_in 119 (by decide +kernel) rfl, kX7_fell, ⟨by decide +kernel, by decide +kernel, by decide +kernel⟩⟩
def mX7_firstOut : g_Y := (yX7_firstOut, cX7_firstOut, 5, (some .int))
set_option maxRecDepth 100000 in
theorem kX7_firstOut : Cond.code yX7_firstOut cX7_firstOut 5 (some .int) ∈ g_T := g_in 1867 rfl rfl
theorem dX7_firstOut : g_MdV mX7_firstOut 2 := ⟨g_in 1865 (by decide +kernel) rfl, g_in 1866 (by decide +kernel) rfl, g_in 119 (by decide +kernel) rfl, kX7_firstOut, ⟨by decide +kernel, by decide +kernel, by decide +kernel⟩⟩
def mX7_fitAt : g_Y := (yX7_fitAt, cX7_fitAt, 3, (some .int))
set_option maxRecDepth 100000 in
theorem kX7_fitAt : Cond.code yX7_fitAt cX7_fitAt 3 (some .int) ∈ g_T := g_in 1769 rfl rfl
theorem dX7_fitAt : g_MdV mX7_fitAt 1 := ⟨g_in 1767 (by decide +kernel) rfl, g_in 1768 (by decide +kernel) rfl, g_in 119 (by decide +kernel) rfl, kX7_fitAt, ⟨by decide +kernel, by decide +kernel, by decide +kernel⟩⟩
def mX7_fits : g_Y := (yX7_fits, cX7_fits, 1, (some .int))
set_option maxRecDepth 100000 in
theorem kX7_fits : Cond.code yX7_fits cX7_fits 1 (some .int) ∈ g_T := g_in 1757 rfl rfl
theorem dX7_fits : g_MdV mX7_fits 0 := ⟨g_in 1755 (by decide +kernel) rfl, g_in 1756 (by decide +kernel) rfl, g_in 119 (by decide +kernel) rfl, kX7_fits, ⟨by decide +kernel, by decide +kernel, by decide +kernel⟩⟩
def mX7_fitting : g_Y := (yX7_fitting, cX7_fitting, 5, (some .int))
set_option maxRecDepth 100000 in
theorem kX7_fitting : Cond.code yX7_fitting cX7_fitting 5 (some .int) ∈ g_T := g_in 1761 rfl rfl
theorem dX7_fitting : g_MdV mX7_fitting 1 := ⟨g_in 1760 (by decide +kernel) rfl, g_in 97 (by decide +kernel) rfl, g_in 119 (by decide +kernel) rfl, kX7_fitting, ⟨by decide +kernel, by decide +kernel, by decide +kernel⟩⟩
def mX7_flaw : g_Y := (yX7_flaw, cX7_flaw, 2, none)
set_option maxRecDepth 100000 in
theorem kX7_flaw : Cond.code yX7_flaw cX7_flaw 2 none ∈ g_T := g_in 1437 rfl rfl
theorem dX7_flaw : g_MdV mX7_flaw 1 := ⟨g_in 1436 (by decide +kernel) rfl, g_in 53 (by decide +kernel) rfl, g_in 119 (by decide +kernel) rfl, kX7_flaw, ⟨by decide +kernel, by decide +kernel, by decide +kernel⟩⟩
def mX7_fraction : g_Y := (yX7_fraction, cX7_fraction, 6, (some .long))
set_option maxRecDepth 100000 in
theorem kX7_fraction : Cond.code yX7_fraction cX7_fraction 6 (some .long) ∈ g_T := g_in 1836 rfl rfl
theorem dX7_fraction : g_MdV mX7_fraction 3 := ⟨g_in 1835 (by decide +kernel) rfl, g_in 104 (by decide +kernel) rfl, g_in 119 (by decide +kernel) rfl, kX7_fraction, ⟨by decide +kernel, by decide +kernel, by decide +kernel⟩⟩
def mX7_goWith : g_Y := (yX7_goWith, cX7_goWith, 3, (some .int))
set_option maxRecDepth 100000 in
theorem kX7_goWith : Cond.code yX7_goWith cX7_goWith 3 (some .int) ∈ g_T := g_in 1669 rfl rfl
theorem dX7_goWith : g_MdV mX7_goWith 1 := ⟨g_in 1667 (by decide +kernel) rfl, g_in 1668 (by decide +kernel) rfl, g_in 119 (by decide +kernel) rfl, kX7_goWith, ⟨by decide +kernel, by decide +kernel, by decide +kernel⟩⟩
def mX7_goesBy : g_Y := (yX7_goesBy, cX7_goesBy, 3, (some .int))
set_option maxRecDepth 100000 in
theorem kX7_goesBy : Cond.code yX7_goesBy cX7_goesBy 3 (some .int) ∈ g_T := g_in 1875 rfl rfl
theorem dX7_goesBy : g_MdV mX7_goesBy 1 := ⟨g_in 1874 (by decide +kernel) rfl, g_in 107 (by decide +kernel) rfl, g_in 119 (by decide +kernel) rfl, kX7_goesBy, ⟨by decide +kernel, by decide +kernel, by decide +kernel⟩⟩
def mX7_goesOn : g_Y := (yX7_goesOn, cX7_goesOn, 3, none)
set_option maxRecDepth 100000 in
theorem kX7_goesOn : Cond.code yX7_goesOn cX7_goesOn 3 none ∈ g_T := g_in 1354 rfl rfl
theorem dX7_goesOn : g_MdV mX7_goesOn 0 := ⟨g_in 1353 (by decide +kernel) rfl, g_in 47 (by decide +kernel) rfl, g_in 119 (by decide +kernel) rfl, kX7_goesOn, ⟨by decide +kernel, by decide +kernel, by decide +kernel⟩⟩
def mX7_goesWith : g_Y := (yX7_goesWith, cX7_goesWith, 2, (some .int))
set_option maxRecDepth 100000 in
theorem kX7_goesWith : Cond.code yX7_goesWith cX7_goesWith 2 (some .int) ∈ g_T := g_in 1662 rfl rfl
theorem dX7_goesWith : g_MdV mX7_goesWith 1 := ⟨g_in 1661 (by decide +kernel) rfl, g_in 87 (by decide +kernel) rfl, g_in 119 (by decide +kernel) rfl, kX7_goesWith, ⟨by decide +kernel, by decide +kernel, by decide +kernel⟩⟩
def mX7_good : g_Y := (yX7_good, cX7_good, 2, (some .int))
set_option maxRecDepth 100000 in
theorem kX7_good : Cond.code yX7_good cX7_good 2 (some .int) ∈ g_T := g_in 1546 rfl rfl
theorem dX7_good : g_MdV mX7_good 1 := ⟨g_in 1545 (by decide +kernel) rfl, g_in 72 (by decide +kernel) rfl, g_in 119 (by decide +kernel) rfl, kX7_good, ⟨by decide +kernel, by decide +kernel, by decide +kernel⟩⟩
def mX7_granted : g_Y := (yX7_granted, cX7_granted, 1, (some .boolean))
set_option maxRecDepth 100000 in
theorem kX7_granted : Cond.code yX7_granted cX7_granted 1 (some .boolean) ∈ g_T := g_in 1907 rfl rfl
theorem dX7_granted : g_MdV mX7_granted 0 := ⟨g_in 1906 (by decide +kernel) rfl, g_in 111 (by decide +kernel) rfl, g_in 119 (by decide +kernel) rfl, kX7_granted, ⟨by decide +kernel, by decide +kernel, by decide +kernel⟩⟩
def mX7_grounded : g_Y := (yX7_grounded, cX7_grounded, 5, (some .int))
set_option maxRecDepth 100000 in
theorem kX7_grounded : Cond.code yX7_grounded cX7_grounded 5 (some .int) ∈ g_T := g_in 1693 rfl rfl
theorem dX7_grounded : g_MdV mX7_grounded 1 := ⟨g_in 1692 (by decide +kernel) rfl, g_in 90 (by decide +kernel) rfl, g_in 119 (by decide +kernel) rfl, kX7_grounded, ⟨by decide +kernel, by decide +kernel, by decide +kernel⟩⟩
def mX7_house : g_Y := (yX7_house, cX7_house, 3, (some .int))
set_option maxRecDepth 100000 in
theorem kX7_house : Cond.code yX7_house cX7_house 3 (some .int) ∈ g_T := g_in 1249 rfl rfl
theorem dX7_house : g_MdV mX7_house 1 := ⟨g_in 1247 (by decide +kernel) rfl, g_in 1248 (by decide +kernel) rfl, g_in 119 (by decide +kernel) rfl, kX7_house, ⟨by decide +kernel, by decide +kernel, by decide +kernel⟩⟩
def mX7_image : g_Y := (yX7_image, cX7_image, 2, (some .int))
set_option maxRecDepth 100000 in
theorem kX7_image : Cond.code yX7_image cX7_image 2 (some .int) ∈ g_T := g_in 1919 rfl rfl
theorem dX7_image : g_MdV mX7_image 0 := ⟨g_in 1917 (by decide +kernel) rfl, g_in 1918 (by decide +kernel) rfl, g_in 119 (by decide +kernel) rfl, kX7_image, ⟨by decide +kernel, by decide +kernel, by decide +kernel⟩⟩
def mX7_in : g_Y := (yX7_in, cX7_in, 3, (some .boolean))
set_option maxRecDepth 100000 in
theorem kX7_in : Cond.code yX7_in cX7_in 3 (some .boolean) ∈ g_T := g_in 1449 rfl rfl
theorem dX7_in : g_MdS mX7_in 3 := ⟨g_in 1448 (by decide +kernel) rfl, g_in 119 (by decide +kernel) rfl, kX7_in, ⟨by decide +kernel, by decide +kernel, by decide +kernel⟩⟩
def mX7_init : g_Y := (yX7_init, cX7_init, 1, none)
set_option maxRecDepth 100000 in
theorem kX7_init : Cond.code yX7_init cX7_init 1 none ∈ g_T := g_in 1145 rfl rfl
theorem dX7_init : g_MdI mX7_init 0 := ⟨g_in 1144 (by decide +kernel) rfl, rfl, rfl, g_in 119 (by decide +kernel) rfl, kX7_init, ⟨by decide +kernel, by decide +kernel, by decide +kernel⟩⟩
def mX7_isDigit : g_Y := (yX7_isDigit, cX7_isDigit, 1, (some .boolean))
set_option maxRecDepth 100000 in
theorem kX7_isDigit : Cond.code yX7_isDigit cX7_isDigit 1 (some .boolean) ∈ g_T := g_in 1365 rfl rfl
theorem dX7_isDigit : g_MdS mX7_isDigit 1 := ⟨g_in 1364 (by decide +kernel) rfl, g_in 119 (by decide +kernel) rfl, kX7_isDigit, ⟨by decide +kernel, by decide +kernel, by decide +kernel⟩⟩
def mX7_isEntry : g_Y := (yX7_isEntry, cX7_isEntry, 2, (some .boolean))
set_option maxRecDepth 100000 in
theorem kX7_isEntry : Cond.code yX7_isEntry cX7_isEntry 2 (some .boolean) ∈ g_T := g_in 1562 rfl rfl
theorem dX7_isEntry : g_MdV mX7_isEntry 1 := ⟨g_in 1561 (by decide +kernel) rfl, g_in 73 (by decide +kernel) rfl, g_in 119 (by decide +kernel) rfl, kX7_isEntry, ⟨by decide +kernel, by decide +kernel, by decide +kernel⟩⟩
def mX7_isExplained : g_Y := (yX7_isExplained, cX7_isExplained, 4, (some .boolean))
set_option maxRecDepth 100000 in
theorem kX7_isExplained : Cond.code yX7_isExplained cX7_isExplained 4 (some .boolean) ∈ g_T := g_in 1642 rfl rfl
theorem dX7_isExplained : g_MdV mX7_isExplained 2 := ⟨g_in 1641 (by decide +kernel) rfl, g_in 85 (by decide +kernel) rfl, g_in 119 (by decide +kernel) rfl, kX7_isExplained, ⟨by decide +kernel, by decide +kernel, by decide +kernel⟩⟩
def mX7_isLetter : g_Y := (yX7_isLetter, cX7_isLetter, 1, (some .boolean))
set_option maxRecDepth 100000 in
theorem kX7_isLetter : Cond.code yX7_isLetter cX7_isLetter 1 (some .boolean) ∈ g_T := g_in 1361 rfl rfl
theorem dX7_isLetter : g_MdS mX7_isLetter 1 := ⟨g_in 1360 (by decide +kernel) rfl, g_in 119 (by decide +kernel) rfl, kX7_isLetter, ⟨by decide +kernel, by decide +kernel, by decide +kernel⟩⟩
def mX7_isName : g_Y := (yX7_isName, cX7_isName, 1, (some .boolean))
set_option maxRecDepth 100000 in
theorem kX7_isName : Cond.code yX7_isName cX7_isName 1 (some .boolean) ∈ g_T := g_in 1467 rfl rfl
theorem dX7_isName : g_MdV mX7_isName 0 := ⟨g_in 1466 (by decide +kernel) rfl, g_in 59 (by decide +kernel) rfl, g_in 119 (by decide +kernel) rfl, kX7_isName, ⟨by decide +kernel, by decide +kernel, by decide +kernel⟩⟩
def mX7_isPaid : g_Y := (yX7_isPaid, cX7_isPaid, 5, (some .boolean))
set_option maxRecDepth 100000 in
theorem kX7_isPaid : Cond.code yX7_isPaid cX7_isPaid 5 (some .boolean) ∈ g_T := g_in 1614 rfl rfl
theorem dX7_isPaid : g_MdV mX7_isPaid 2 := ⟨g_in 1613 (by decide +kernel) rfl, g_in 81 (by decide +kernel) rfl, g_in 119 (by decide +kernel) rfl, kX7_isPaid, ⟨by decide +kernel, by decide +kernel, by decide +kernel⟩⟩
def mX7_isRest : g_Y := (yX7_isRest, cX7_isRest, 4, (some .boolean))
set_option maxRecDepth 100000 in
theorem kX7_isRest : Cond.code yX7_isRest cX7_isRest 4 (some .boolean) ∈ g_T := g_in 1815 rfl rfl
theorem dX7_isRest : g_MdS mX7_isRest 2 := ⟨g_in 1814 (by decide +kernel) rfl, g_in 119 (by decide +kernel) rfl, kX7_isRest, ⟨by decide +kernel, by decide +kernel, by decide +kernel⟩⟩
def mX7_isSpeaker : g_Y := (yX7_isSpeaker, cX7_isSpeaker, 2, (some .boolean))
set_option maxRecDepth 100000 in
theorem kX7_isSpeaker : Cond.code yX7_isSpeaker cX7_isSpeaker 2 (some .boolean) ∈ g_T := g_in 1578 rfl rfl
theorem dX7_isSpeaker : g_MdV mX7_isSpeaker 1 := ⟨g_in 1577 (by decide +kernel) rfl, g_in 75 (by decide +kernel) rfl, g_in 119 (by decide +kernel) rfl, kX7_isSpeaker, ⟨by decide +kernel, by decide +kernel, by decide +kernel⟩⟩
def mX7_isWord : g_Y := (yX7_isWord, cX7_isWord, 2, (some .boolean))
set_option maxRecDepth 100000 in
theorem kX7_isWord : Cond.code yX7_isWord cX7_isWord 2 (some .boolean) ∈ g_T := g_in 1378 rfl rfl
theorem dX7_isWord : g_MdV mX7_isWord 1 := ⟨g_in 1377 (by decide +kernel) rfl, g_in 51 (by decide +kernel) rfl, g_in 119 (by decide +kernel) rfl, kX7_isWord, ⟨by decide +kernel, by decide +kernel, by decide +kernel⟩⟩
def mX7_judge : g_Y := (yX7_judge, cX7_judge, 1, (some .int))
set_option maxRecDepth 100000 in
theorem kX7_judge : Cond.code yX7_judge cX7_judge 1 (some .int) ∈ g_T := g_in 1793 rfl rfl
theorem dX7_judge : g_MdV mX7_judge 0 := ⟨g_in 1791 (by decide +kernel) rfl, g_in 1792 (by decide +kernel) rfl, g_in 119 (by decide +kernel) rfl, kX7_judge, ⟨by decide +kernel, by decide +kernel, by decide +kernel⟩⟩
def mX7_keep : g_Y := (yX7_keep, cX7_keep, 3, (some .int))
set_option maxRecDepth 100000 in
theorem kX7_keep : Cond.code yX7_keep cX7_keep 3 (some .int) ∈ g_T := g_in 1677 rfl rfl
theorem dX7_keep : g_MdV mX7_keep 1 := ⟨g_in 1675 (by decide +kernel) rfl, g_in 1676 (by decide +kernel) rfl, g_in 119 (by decide +kernel) rfl, kX7_keep, ⟨by decide +kernel, by decide +kernel, by decide +kernel⟩⟩
def mX7_keeps : g_Y := (yX7_keeps, cX7_keeps, 4, (some .int))
set_option maxRecDepth 100000 in
theorem kX7_keeps : Cond.code yX7_keeps cX7_keeps 4 (some .int) ∈ g_T := g_in 1681 rfl rfl
theorem dX7_keeps : g_MdV mX7_keeps 1 := ⟨g_in 1680 (by decide +kernel) rfl, g_in 89 (by decide +kernel) rfl, g_in 119 (by decide +kernel) rfl, kX7_keeps, ⟨by decide +kernel, by decide +kernel, by decide +kernel⟩⟩
def mX7_knownOne : g_Y := (yX7_knownOne, cX7_knownOne, 3, (some .int))
set_option maxRecDepth 100000 in
theorem kX7_knownOne : Cond.code yX7_knownOne cX7_knownOne 3 (some .int) ∈ g_T := g_in 1490 rfl rfl
theorem dX7_knownOne : g_MdV mX7_knownOne 1 := ⟨g_in 1489 (by decide +kernel) rfl, g_in 62 (by decide +kernel) rfl, g_in 119 (by decide +kernel) rfl, kX7_knownOne, ⟨by decide +kernel, by decide +kernel, by decide +kernel⟩⟩
def mX7_led : g_Y := (yX7_led, cX7_led, 4, (some .int))
set_option maxRecDepth 100000 in
theorem kX7_led : Cond.code yX7_led cX7_led 4 (some .int) ∈ g_T := g_in 1927 rfl rfl
theorem dX7_led : g_MdV mX7_led 1 := ⟨g_in 1925 (by decide +kernel) rfl, g_in 1926 (by decide +kernel) rfl, g_in 119 (by decide +kernel) rfl, kX7_led, ⟨by decide +kernel, by decide +kernel, by decide +kernel⟩⟩
def mX7_lineBegins : g_Y := (yX7_lineBegins, cX7_lineBegins, 3, none)
set_option maxRecDepth 100000 in
theorem kX7_lineBegins : Cond.code yX7_lineBegins cX7_lineBegins 3 none ∈ g_T := g_in 1459 rfl rfl
theorem dX7_lineBegins : g_MdV mX7_lineBegins 2 := ⟨g_in 1458 (by decide +kernel) rfl, g_in 57 (by decide +kernel) rfl, g_in 119 (by decide +kernel) rfl, kX7_lineBegins, ⟨by decide +kernel, by decide +kernel, by decide +kernel⟩⟩
def mX7_lodgers : g_Y := (yX7_lodgers, cX7_lodgers, 1, (some .int))
set_option maxRecDepth 100000 in
theorem kX7_lodgers : Cond.code yX7_lodgers cX7_lodgers 1 (some .int) ∈ g_T := g_in 1618 rfl rfl
theorem dX7_lodgers : g_MdV mX7_lodgers 0 := ⟨g_in 1616 (by decide +kernel) rfl, g_in 1617 (by decide +kernel) rfl, g_in 119 (by decide +kernel) rfl, kX7_lodgers, ⟨by decide +kernel, by decide +kernel, by decide +kernel⟩⟩
def mX7_lost : g_Y := (yX7_lost, cX7_lost, 2, (some .int))
set_option maxRecDepth 100000 in
theorem kX7_lost : Cond.code yX7_lost cX7_lost 2 (some .int) ∈ g_T := g_in 1805 rfl rfl
theorem dX7_lost : g_MdV mX7_lost 1 := ⟨g_in 1804 (by decide +kernel) rfl, g_in 101 (by decide +kernel) rfl, g_in 119 (by decide +kernel) rfl, kX7_lost, ⟨by decide +kernel, by decide +kernel, by decide +kernel⟩⟩
def mX7_mean : g_Y := (yX7_mean, cX7_mean, 6, (some .long))
set_option maxRecDepth 100000 in
theorem kX7_mean : Cond.code yX7_mean cX7_mean 6 (some .long) ∈ g_T := g_in 1843 rfl rfl
theorem dX7_mean : g_MdV mX7_mean 2 := ⟨g_in 1841 (by decide +kernel) rfl, g_in 1842 (by decide +kernel) rfl, g_in 119 (by decide +kernel) rfl, kX7_mean, ⟨by decide +kernel, by decide +kernel, by decide +kernel⟩⟩
def mX7_meaning : g_Y := (yX7_meaning, cX7_meaning, 3, (some .int))
set_option maxRecDepth 100000 in
theorem kX7_meaning : Cond.code yX7_meaning cX7_meaning 3 (some .int) ∈ g_T := g_in 1570 rfl rfl
theorem dX7_meaning : g_MdV mX7_meaning 2 := ⟨g_in 1568 (by decide +kernel) rfl, g_in 1569 (by decide +kernel) rfl, g_in 119 (by decide +kernel) rfl, kX7_meaning, ⟨by decide +kernel, by decide +kernel, by decide +kernel⟩⟩
def mX7_meanings : g_Y := (yX7_meanings, cX7_meanings, 2, (some .int))
set_option maxRecDepth 100000 in
theorem kX7_meanings : Cond.code yX7_meanings cX7_meanings 2 (some .int) ∈ g_T := g_in 1733 rfl rfl
theorem dX7_meanings : g_MdV mX7_meanings 1 := ⟨g_in 1732 (by decide +kernel) rfl, g_in 94 (by decide +kernel) rfl, g_in 119 (by decide +kernel) rfl, kX7_meanings, ⟨by decide +kernel, by decide +kernel, by decide +kernel⟩⟩
def mX7_meant : g_Y := (yX7_meant, cX7_meant, 3, (some .int))
set_option maxRecDepth 100000 in
theorem kX7_meant : Cond.code yX7_meant cX7_meant 3 (some .int) ∈ g_T := g_in 1737 rfl rfl
theorem dX7_meant : g_MdV mX7_meant 2 := ⟨g_in 1736 (by decide +kernel) rfl, g_in 95 (by decide +kernel) rfl, g_in 119 (by decide +kernel) rfl, kX7_meant, ⟨by decide +kernel, by decide +kernel, by decide +kernel⟩⟩
def mX7_mended : g_Y := (yX7_mended, cX7_mended, 3, (some .int))
set_option maxRecDepth 100000 in
theorem kX7_mended : Cond.code yX7_mended cX7_mended 3 (some .int) ∈ g_T := g_in 1808 rfl rfl
theorem dX7_mended : g_MdS mX7_mended 3 := ⟨g_in 1807 (by decide +kernel) rfl, g_in 119 (by decide +kernel) rfl, kX7_mended, ⟨by decide +kernel, by decide +kernel, by decide +kernel⟩⟩
def mX7_mends : g_Y := (yX7_mends, cX7_mends, 6, (some .int))
set_option maxRecDepth 100000 in
theorem kX7_mends : Cond.code yX7_mends cX7_mends 6 (some .int) ∈ g_T := g_in 1797 rfl rfl
theorem dX7_mends : g_MdV mX7_mends 4 := ⟨g_in 1795 (by decide +kernel) rfl, g_in 1796 (by decide +kernel) rfl, g_in 119 (by decide +kernel) rfl, kX7_mends, ⟨by decide +kernel, by decide +kernel, by decide +kernel⟩⟩
def mX7_moody : g_Y := (yX7_moody, cX7_moody, 5, (some .int))
set_option maxRecDepth 100000 in
theorem kX7_moody : Cond.code yX7_moody cX7_moody 5 (some .int) ∈ g_T := g_in 1851 rfl rfl
theorem dX7_moody : g_MdV mX7_moody 2 := ⟨g_in 1849 (by decide +kernel) rfl, g_in 1850 (by decide +kernel) rfl, g_in 119 (by decide +kernel) rfl, kX7_moody, ⟨by decide +kernel, by decide +kernel, by decide +kernel⟩⟩
def mX7_moodyYear : g_Y := (yX7_moodyYear, cX7_moodyYear, 1, (some .int))
set_option maxRecDepth 100000 in
theorem kX7_moodyYear : Cond.code yX7_moodyYear cX7_moodyYear 1 (some .int) ∈ g_T := g_in 1887 rfl rfl
theorem dX7_moodyYear : g_MdV mX7_moodyYear 0 := ⟨g_in 1885 (by decide +kernel) rfl, g_in 1886 (by decide +kernel) rfl, g_in 119 (by decide +kernel) rfl, kX7_moodyYear, ⟨by decide +kernel, by decide +kernel, by decide +kernel⟩⟩
def mX7_names : g_Y := (yX7_names, cX7_names, 5, none)
set_option maxRecDepth 100000 in
theorem kX7_names : Cond.code yX7_names cX7_names 5 none ∈ g_T := g_in 1482 rfl rfl
theorem dX7_names : g_MdV mX7_names 3 := ⟨g_in 1481 (by decide +kernel) rfl, g_in 60 (by decide +kernel) rfl, g_in 119 (by decide +kernel) rfl, kX7_names, ⟨by decide +kernel, by decide +kernel, by decide +kernel⟩⟩
def mX7_odds : g_Y := (yX7_odds, cX7_odds, 7, (some .long))
set_option maxRecDepth 100000 in
theorem kX7_odds : Cond.code yX7_odds cX7_odds 7 (some .long) ∈ g_T := g_in 1823 rfl rfl
theorem dX7_odds : g_MdV mX7_odds 2 := ⟨g_in 1821 (by decide +kernel) rfl, g_in 1822 (by decide +kernel) rfl, g_in 119 (by decide +kernel) rfl, kX7_odds, ⟨by decide +kernel, by decide +kernel, by decide +kernel⟩⟩
def mX7_outIn : g_Y := (yX7_outIn, cX7_outIn, 3, (some .int))
set_option maxRecDepth 100000 in
theorem kX7_outIn : Cond.code yX7_outIn cX7_outIn 3 (some .int) ∈ g_T := g_in 1650 rfl rfl
theorem dX7_outIn : g_MdV mX7_outIn 1 := ⟨g_in 1648 (by decide +kernel) rfl, g_in 1649 (by decide +kernel) rfl, g_in 119 (by decide +kernel) rfl, kX7_outIn, ⟨by decide +kernel, by decide +kernel, by decide +kernel⟩⟩
def mX7_packed : g_Y := (yX7_packed, cX7_packed, 4, (some .long))
set_option maxRecDepth 100000 in
theorem kX7_packed : Cond.code yX7_packed cX7_packed 4 (some .long) ∈ g_T := g_in 1381 rfl rfl
theorem dX7_packed : g_MdS mX7_packed 1 := ⟨g_in 1380 (by decide +kernel) rfl, g_in 119 (by decide +kernel) rfl, kX7_packed, ⟨by decide +kernel, by decide +kernel, by decide +kernel⟩⟩
def mX7_partOf : g_Y := (yX7_partOf, cX7_partOf, 5, (some .long))
set_option maxRecDepth 100000 in
theorem kX7_partOf : Cond.code yX7_partOf cX7_partOf 5 (some .long) ∈ g_T := g_in 1827 rfl rfl
theorem dX7_partOf : g_MdV mX7_partOf 1 := ⟨g_in 1826 (by decide +kernel) rfl, g_in 102 (by decide +kernel) rfl, g_in 119 (by decide +kernel) rfl, kX7_partOf, ⟨by decide +kernel, by decide +kernel, by decide +kernel⟩⟩
def mX7_pays : g_Y := (yX7_pays, cX7_pays, 4, (some .int))
set_option maxRecDepth 100000 in
theorem kX7_pays : Cond.code yX7_pays cX7_pays 4 (some .int) ∈ g_T := g_in 1610 rfl rfl
theorem dX7_pays : g_MdV mX7_pays 2 := ⟨g_in 1608 (by decide +kernel) rfl, g_in 1609 (by decide +kernel) rfl, g_in 119 (by decide +kernel) rfl, kX7_pays, ⟨by decide +kernel, by decide +kernel, by decide +kernel⟩⟩
def mX7_pillar : g_Y := (yX7_pillar, cX7_pillar, 4, (some .int))
set_option maxRecDepth 100000 in
theorem kX7_pillar : Cond.code yX7_pillar cX7_pillar 4 (some .int) ∈ g_T := g_in 1658 rfl rfl
theorem dX7_pillar : g_MdV mX7_pillar 0 := ⟨g_in 1656 (by decide +kernel) rfl, g_in 1657 (by decide +kernel) rfl, g_in 119 (by decide +kernel) rfl, kX7_pillar, ⟨by decide +kernel, by decide +kernel, by decide +kernel⟩⟩
def mX7_point : g_Y := (yX7_point, cX7_point, 3, (some .int))
set_option maxRecDepth 100000 in
theorem kX7_point : Cond.code yX7_point cX7_point 3 (some .int) ∈ g_T := g_in 1697 rfl rfl
theorem dX7_point : g_MdV mX7_point 0 := ⟨g_in 1695 (by decide +kernel) rfl, g_in 1696 (by decide +kernel) rfl, g_in 119 (by decide +kernel) rfl, kX7_point, ⟨by decide +kernel, by decide +kernel, by decide +kernel⟩⟩
def mX7_readAll : g_Y := (yX7_readAll, cX7_readAll, 2, none)
set_option maxRecDepth 100000 in
theorem kX7_readAll : Cond.code yX7_readAll cX7_readAll 2 none ∈ g_T := g_in 1369 rfl rfl
theorem dX7_readAll : g_MdV mX7_readAll 0 := ⟨g_in 1368 (by decide +kernel) rfl, g_in 49 (by decide +kernel) rfl, g_in 119 (by decide +kernel) rfl, kX7_readAll, ⟨by decide +kernel, by decide +kernel, by decide +kernel⟩⟩
def mX7_readEntry : g_Y := (yX7_readEntry, cX7_readEntry, 4, none)
set_option maxRecDepth 100000 in
theorem kX7_readEntry : Cond.code yX7_readEntry cX7_readEntry 4 none ∈ g_T := g_in 1455 rfl rfl
theorem dX7_readEntry : g_MdV mX7_readEntry 0 := ⟨g_in 1454 (by decide +kernel) rfl, g_in 56 (by decide +kernel) rfl, g_in 119 (by decide +kernel) rfl, kX7_readEntry, ⟨by decide +kernel, by decide +kernel, by decide +kernel⟩⟩
def mX7_readFresh : g_Y := (yX7_readFresh, cX7_readFresh, 3, (some .long))
set_option maxRecDepth 100000 in
theorem kX7_readFresh : Cond.code yX7_readFresh cX7_readFresh 3 (some .long) ∈ g_T := g_in 1463 rfl rfl
theorem dX7_readFresh : g_MdV mX7_readFresh 0 := ⟨g_in 1462 (by decide +kernel) rfl, g_in 58 (by decide +kernel) rfl, g_in 119 (by decide +kernel) rfl, kX7_readFresh, ⟨by decide +kernel, by decide +kernel, by decide +kernel⟩⟩
def mX7_readHouse : g_Y := (yX7_readHouse, cX7_readHouse, 3, none)
set_option maxRecDepth 100000 in
theorem kX7_readHouse : Cond.code yX7_readHouse cX7_readHouse 3 none ∈ g_T := g_in 1433 rfl rfl
theorem dX7_readHouse : g_MdV mX7_readHouse 0 := ⟨g_in 1432 (by decide +kernel) rfl, g_in 52 (by decide +kernel) rfl, g_in 119 (by decide +kernel) rfl, kX7_readHouse, ⟨by decide +kernel, by decide +kernel, by decide +kernel⟩⟩
def mX7_readKnown : g_Y := (yX7_readKnown, cX7_readKnown, 3, (some .int))
set_option maxRecDepth 100000 in
theorem kX7_readKnown : Cond.code yX7_readKnown cX7_readKnown 3 (some .int) ∈ g_T := g_in 1505 rfl rfl
theorem dX7_readKnown : g_MdV mX7_readKnown 1 := ⟨g_in 1504 (by decide +kernel) rfl, g_in 65 (by decide +kernel) rfl, g_in 119 (by decide +kernel) rfl, kX7_readKnown, ⟨by decide +kernel, by decide +kernel, by decide +kernel⟩⟩
def mX7_readLeft : g_Y := (yX7_readLeft, cX7_readLeft, 3, none)
set_option maxRecDepth 100000 in
theorem kX7_readLeft : Cond.code yX7_readLeft cX7_readLeft 3 none ∈ g_T := g_in 1533 rfl rfl
theorem dX7_readLeft : g_MdV mX7_readLeft 0 := ⟨g_in 1532 (by decide +kernel) rfl, g_in 69 (by decide +kernel) rfl, g_in 119 (by decide +kernel) rfl, kX7_readLeft, ⟨by decide +kernel, by decide +kernel, by decide +kernel⟩⟩
def mX7_readLine : g_Y := (yX7_readLine, cX7_readLine, 1, none)
set_option maxRecDepth 100000 in
theorem kX7_readLine : Cond.code yX7_readLine cX7_readLine 1 none ∈ g_T := g_in 1373 rfl rfl
theorem dX7_readLine : g_MdV mX7_readLine 0 := ⟨g_in 1372 (by decide +kernel) rfl, g_in 50 (by decide +kernel) rfl, g_in 119 (by decide +kernel) rfl, kX7_readLine, ⟨by decide +kernel, by decide +kernel, by decide +kernel⟩⟩
def mX7_readMeans : g_Y := (yX7_readMeans, cX7_readMeans, 5, none)
set_option maxRecDepth 100000 in
theorem kX7_readMeans : Cond.code yX7_readMeans cX7_readMeans 5 none ∈ g_T := g_in 1486 rfl rfl
theorem dX7_readMeans : g_MdV mX7_readMeans 0 := ⟨g_in 1485 (by decide +kernel) rfl, g_in 61 (by decide +kernel) rfl, g_in 119 (by decide +kernel) rfl, kX7_readMeans, ⟨by decide +kernel, by decide +kernel, by decide +kernel⟩⟩
def mX7_readPart : g_Y := (yX7_readPart, cX7_readPart, 4, (some .int))
set_option maxRecDepth 100000 in
theorem kX7_readPart : Cond.code yX7_readPart cX7_readPart 4 (some .int) ∈ g_T := g_in 1442 rfl rfl
theorem dX7_readPart : g_MdV mX7_readPart 3 := ⟨g_in 1441 (by decide +kernel) rfl, g_in 54 (by decide +kernel) rfl, g_in 119 (by decide +kernel) rfl, kX7_readPart, ⟨by decide +kernel, by decide +kernel, by decide +kernel⟩⟩
def mX7_readRhymes : g_Y := (yX7_readRhymes, cX7_readRhymes, 3, none)
set_option maxRecDepth 100000 in
theorem kX7_readRhymes : Cond.code yX7_readRhymes cX7_readRhymes 3 none ∈ g_T := g_in 1501 rfl rfl
theorem dX7_readRhymes : g_MdV mX7_readRhymes 0 := ⟨g_in 1500 (by decide +kernel) rfl, g_in 64 (by decide +kernel) rfl, g_in 119 (by decide +kernel) rfl, kX7_readRhymes, ⟨by decide +kernel, by decide +kernel, by decide +kernel⟩⟩
def mX7_readSays : g_Y := (yX7_readSays, cX7_readSays, 4, none)
set_option maxRecDepth 100000 in
theorem kX7_readSays : Cond.code yX7_readSays cX7_readSays 4 none ∈ g_T := g_in 1516 rfl rfl
theorem dX7_readSays : g_MdV mX7_readSays 0 := ⟨g_in 1515 (by decide +kernel) rfl, g_in 67 (by decide +kernel) rfl, g_in 119 (by decide +kernel) rfl, kX7_readSays, ⟨by decide +kernel, by decide +kernel, by decide +kernel⟩⟩
def mX7_readSpeaker : g_Y := (yX7_readSpeaker, cX7_readSpeaker, 4, none)
set_option maxRecDepth 100000 in
theorem kX7_readSpeaker : Cond.code yX7_readSpeaker cX7_readSpeaker 4 none ∈ g_T := g_in 1509 rfl rfl
theorem dX7_readSpeaker : g_MdV mX7_readSpeaker 0 := ⟨g_in 1508 (by decide +kernel) rfl, g_in 66 (by decide +kernel) rfl, g_in 119 (by decide +kernel) rfl, kX7_readSpeaker, ⟨by decide +kernel, by decide +kernel, by decide +kernel⟩⟩
def mX7_readUnsure : g_Y := (yX7_readUnsure, cX7_readUnsure, 5, none)
set_option maxRecDepth 100000 in
theorem kX7_readUnsure : Cond.code yX7_readUnsure cX7_readUnsure 5 none ∈ g_T := g_in 1525 rfl rfl
theorem dX7_readUnsure : g_MdV mX7_readUnsure 0 := ⟨g_in 1524 (by decide +kernel) rfl, g_in 68 (by decide +kernel) rfl, g_in 119 (by decide +kernel) rfl, kX7_readUnsure, ⟨by decide +kernel, by decide +kernel, by decide +kernel⟩⟩
def mX7_readWhole : g_Y := (yX7_readWhole, cX7_readWhole, 4, (some .int))
set_option maxRecDepth 100000 in
theorem kX7_readWhole : Cond.code yX7_readWhole cX7_readWhole 4 (some .int) ∈ g_T := g_in 1446 rfl rfl
theorem dX7_readWhole : g_MdV mX7_readWhole 2 := ⟨g_in 1445 (by decide +kernel) rfl, g_in 55 (by decide +kernel) rfl, g_in 119 (by decide +kernel) rfl, kX7_readWhole, ⟨by decide +kernel, by decide +kernel, by decide +kernel⟩⟩
def mX7_refused : g_Y := (yX7_refused, cX7_refused, 2, (some .int))
set_option maxRecDepth 100000 in
theorem kX7_refused : Cond.code yX7_refused cX7_refused 2 (some .int) ∈ g_T := g_in 1253 rfl rfl
theorem dX7_refused : g_MdV mX7_refused 1 := ⟨g_in 1252 (by decide +kernel) rfl, g_in 46 (by decide +kernel) rfl, g_in 119 (by decide +kernel) rfl, kX7_refused, ⟨by decide +kernel, by decide +kernel, by decide +kernel⟩⟩
def mX7_refusesInk : g_Y := (yX7_refusesInk, cX7_refusesInk, 2, (some .int))
set_option maxRecDepth 100000 in
theorem kX7_refusesInk : Cond.code yX7_refusesInk cX7_refusesInk 2 (some .int) ∈ g_T := g_in 1801 rfl rfl
theorem dX7_refusesInk : g_MdV mX7_refusesInk 1 := ⟨g_in 1800 (by decide +kernel) rfl, g_in 100 (by decide +kernel) rfl, g_in 119 (by decide +kernel) rfl, kX7_refusesInk, ⟨by decide +kernel, by decide +kernel, by decide +kernel⟩⟩
def mX7_refusesLodger : g_Y := (yX7_refusesLodger, cX7_refusesLodger, 2, (some .int))
set_option maxRecDepth 100000 in
theorem kX7_refusesLodger : Cond.code yX7_refusesLodger cX7_refusesLodger 2 (some .int) ∈ g_T := g_in 1673 rfl rfl
theorem dX7_refusesLodger : g_MdV mX7_refusesLodger 1 := ⟨g_in 1672 (by decide +kernel) rfl, g_in 88 (by decide +kernel) rfl, g_in 119 (by decide +kernel) rfl, kX7_refusesLodger, ⟨by decide +kernel, by decide +kernel, by decide +kernel⟩⟩
def mX7_refusesSeed : g_Y := (yX7_refusesSeed, cX7_refusesSeed, 3, (some .int))
set_option maxRecDepth 100000 in
theorem kX7_refusesSeed : Cond.code yX7_refusesSeed cX7_refusesSeed 3 (some .int) ∈ g_T := g_in 1855 rfl rfl
theorem dX7_refusesSeed : g_MdV mX7_refusesSeed 2 := ⟨g_in 1854 (by decide +kernel) rfl, g_in 105 (by decide +kernel) rfl, g_in 119 (by decide +kernel) rfl, kX7_refusesSeed, ⟨by decide +kernel, by decide +kernel, by decide +kernel⟩⟩
def mX7_refusesYear : g_Y := (yX7_refusesYear, cX7_refusesYear, 3, (some .int))
set_option maxRecDepth 100000 in
theorem kX7_refusesYear : Cond.code yX7_refusesYear cX7_refusesYear 3 (some .int) ∈ g_T := g_in 1586 rfl rfl
theorem dX7_refusesYear : g_MdV mX7_refusesYear 2 := ⟨g_in 1585 (by decide +kernel) rfl, g_in 76 (by decide +kernel) rfl, g_in 119 (by decide +kernel) rfl, kX7_refusesYear, ⟨by decide +kernel, by decide +kernel, by decide +kernel⟩⟩
def mX7_remains : g_Y := (yX7_remains, cX7_remains, 2, none)
set_option maxRecDepth 100000 in
theorem kX7_remains : Cond.code yX7_remains cX7_remains 2 none ∈ g_T := g_in 1883 rfl rfl
theorem dX7_remains : g_MdV mX7_remains 0 := ⟨g_in 1882 (by decide +kernel) rfl, g_in 109 (by decide +kernel) rfl, g_in 119 (by decide +kernel) rfl, kX7_remains, ⟨by decide +kernel, by decide +kernel, by decide +kernel⟩⟩
def mX7_remembers : g_Y := (yX7_remembers, cX7_remembers, 2, none)
set_option maxRecDepth 100000 in
theorem kX7_remembers : Cond.code yX7_remembers cX7_remembers 2 none ∈ g_T := g_in 1879 rfl rfl
theorem dX7_remembers : g_MdV mX7_remembers 0 := ⟨g_in 1878 (by decide +kernel) rfl, g_in 108 (by decide +kernel) rfl, g_in 119 (by decide +kernel) rfl, kX7_remembers, ⟨by decide +kernel, by decide +kernel, by decide +kernel⟩⟩
def mX7_rest : g_Y := (yX7_rest, cX7_rest, 4, (some .int))
set_option maxRecDepth 100000 in
theorem kX7_rest : Cond.code yX7_rest cX7_rest 4 (some .int) ∈ g_T := g_in 1819 rfl rfl
theorem dX7_rest : g_MdV mX7_rest 1 := ⟨g_in 1817 (by decide +kernel) rfl, g_in 1818 (by decide +kernel) rfl, g_in 119 (by decide +kernel) rfl, kX7_rest, ⟨by decide +kernel, by decide +kernel, by decide +kernel⟩⟩
def mX7_rests : g_Y := (yX7_rests, cX7_rests, 5, (some .int))
set_option maxRecDepth 100000 in
theorem kX7_rests : Cond.code yX7_rests cX7_rests 5 (some .int) ∈ g_T := g_in 1812 rfl rfl
theorem dX7_rests : g_MdV mX7_rests 1 := ⟨g_in 1810 (by decide +kernel) rfl, g_in 1811 (by decide +kernel) rfl, g_in 119 (by decide +kernel) rfl, kX7_rests, ⟨by decide +kernel, by decide +kernel, by decide +kernel⟩⟩
def mX7_rhymesOver : g_Y := (yX7_rhymesOver, cX7_rhymesOver, 7, (some .int))
set_option maxRecDepth 100000 in
theorem kX7_rhymesOver : Cond.code yX7_rhymesOver cX7_rhymesOver 7 (some .int) ∈ g_T := g_in 1749 rfl rfl
theorem dX7_rhymesOver : g_MdV mX7_rhymesOver 2 := ⟨g_in 1748 (by decide +kernel) rfl, g_in 96 (by decide +kernel) rfl, g_in 119 (by decide +kernel) rfl, kX7_rhymesOver, ⟨by decide +kernel, by decide +kernel, by decide +kernel⟩⟩
def mX7_rings : g_Y := (yX7_rings, cX7_rings, 1, (some .int))
set_option maxRecDepth 100000 in
theorem kX7_rings : Cond.code yX7_rings cX7_rings 1 (some .int) ∈ g_T := g_in 1689 rfl rfl
theorem dX7_rings : g_MdV mX7_rings 0 := ⟨g_in 1687 (by decide +kernel) rfl, g_in 1688 (by decide +kernel) rfl, g_in 119 (by decide +kernel) rfl, kX7_rings, ⟨by decide +kernel, by decide +kernel, by decide +kernel⟩⟩
def mX7_roots : g_Y := (yX7_roots, cX7_roots, 2, (some .int))
set_option maxRecDepth 100000 in
theorem kX7_roots : Cond.code yX7_roots cX7_roots 2 (some .int) ∈ g_T := g_in 1713 rfl rfl
theorem dX7_roots : g_MdV mX7_roots 1 := ⟨g_in 1711 (by decide +kernel) rfl, g_in 1712 (by decide +kernel) rfl, g_in 119 (by decide +kernel) rfl, kX7_roots, ⟨by decide +kernel, by decide +kernel, by decide +kernel⟩⟩
def mX7_rootsOf : g_Y := (yX7_rootsOf, cX7_rootsOf, 6, (some .int))
set_option maxRecDepth 100000 in
theorem kX7_rootsOf : Cond.code yX7_rootsOf cX7_rootsOf 6 (some .int) ∈ g_T := g_in 1717 rfl rfl
theorem dX7_rootsOf : g_MdV mX7_rootsOf 1 := ⟨g_in 1716 (by decide +kernel) rfl, g_in 92 (by decide +kernel) rfl, g_in 119 (by decide +kernel) rfl, kX7_rootsOf, ⟨by decide +kernel, by decide +kernel, by decide +kernel⟩⟩
def mX7_saidBy : g_Y := (yX7_saidBy, cX7_saidBy, 5, (some .int))
set_option maxRecDepth 100000 in
theorem kX7_saidBy : Cond.code yX7_saidBy cX7_saidBy 5 (some .int) ∈ g_T := g_in 1590 rfl rfl
theorem dX7_saidBy : g_MdV mX7_saidBy 2 := ⟨g_in 1589 (by decide +kernel) rfl, g_in 77 (by decide +kernel) rfl, g_in 119 (by decide +kernel) rfl, kX7_saidBy, ⟨by decide +kernel, by decide +kernel, by decide +kernel⟩⟩
def mX7_say : g_Y := (yX7_say, cX7_say, 3, (some .int))
set_option maxRecDepth 100000 in
theorem kX7_say : Cond.code yX7_say cX7_say 3 (some .int) ∈ g_T := g_in 1891 rfl rfl
theorem dX7_say : g_MdV mX7_say 2 := ⟨g_in 1889 (by decide +kernel) rfl, g_in 1890 (by decide +kernel) rfl, g_in 119 (by decide +kernel) rfl, kX7_say, ⟨by decide +kernel, by decide +kernel, by decide +kernel⟩⟩
def mX7_saysIn : g_Y := (yX7_saysIn, cX7_saysIn, 6, (some .int))
set_option maxRecDepth 100000 in
theorem kX7_saysIn : Cond.code yX7_saysIn cX7_saysIn 6 (some .int) ∈ g_T := g_in 1582 rfl rfl
theorem dX7_saysIn : g_MdV mX7_saysIn 3 := ⟨g_in 1580 (by decide +kernel) rfl, g_in 1581 (by decide +kernel) rfl, g_in 119 (by decide +kernel) rfl, kX7_saysIn, ⟨by decide +kernel, by decide +kernel, by decide +kernel⟩⟩
def mX7_seed : g_Y := (yX7_seed, cX7_seed, 2, (some .boolean))
set_option maxRecDepth 100000 in
theorem kX7_seed : Cond.code yX7_seed cX7_seed 2 (some .boolean) ∈ g_T := g_in 1911 rfl rfl
theorem dX7_seed : g_MdV mX7_seed 1 := ⟨g_in 1909 (by decide +kernel) rfl, g_in 1910 (by decide +kernel) rfl, g_in 119 (by decide +kernel) rfl, kX7_seed, ⟨by decide +kernel, by decide +kernel, by decide +kernel⟩⟩
def mX7_settled : g_Y := (yX7_settled, cX7_settled, 6, (some .int))
set_option maxRecDepth 100000 in
theorem kX7_settled : Cond.code yX7_settled cX7_settled 6 (some .int) ∈ g_T := g_in 1638 rfl rfl
theorem dX7_settled : g_MdV mX7_settled 1 := ⟨g_in 1637 (by decide +kernel) rfl, g_in 84 (by decide +kernel) rfl, g_in 119 (by decide +kernel) rfl, kX7_settled, ⟨by decide +kernel, by decide +kernel, by decide +kernel⟩⟩
def mX7_size : g_Y := (yX7_size, cX7_size, 2, (some .int))
set_option maxRecDepth 100000 in
theorem kX7_size : Cond.code yX7_size cX7_size 2 (some .int) ∈ g_T := g_in 1931 rfl rfl
theorem dX7_size : g_MdV mX7_size 1 := ⟨g_in 1929 (by decide +kernel) rfl, g_in 1930 (by decide +kernel) rfl, g_in 119 (by decide +kernel) rfl, kX7_size, ⟨by decide +kernel, by decide +kernel, by decide +kernel⟩⟩
def mX7_speaker : g_Y := (yX7_speaker, cX7_speaker, 5, (some .int))
set_option maxRecDepth 100000 in
theorem kX7_speaker : Cond.code yX7_speaker cX7_speaker 5 (some .int) ∈ g_T := g_in 1574 rfl rfl
theorem dX7_speaker : g_MdV mX7_speaker 2 := ⟨g_in 1572 (by decide +kernel) rfl, g_in 1573 (by decide +kernel) rfl, g_in 119 (by decide +kernel) rfl, kX7_speaker, ⟨by decide +kernel, by decide +kernel, by decide +kernel⟩⟩
def mX7_stay : g_Y := (yX7_stay, cX7_stay, 3, none)
set_option maxRecDepth 100000 in
theorem kX7_stay : Cond.code yX7_stay cX7_stay 3 none ∈ g_T := g_in 1646 rfl rfl
theorem dX7_stay : g_MdV mX7_stay 1 := ⟨g_in 1645 (by decide +kernel) rfl, g_in 86 (by decide +kernel) rfl, g_in 119 (by decide +kernel) rfl, kX7_stay, ⟨by decide +kernel, by decide +kernel, by decide +kernel⟩⟩
def mX7_stays : g_Y := (yX7_stays, cX7_stays, 6, (some .long))
set_option maxRecDepth 100000 in
theorem kX7_stays : Cond.code yX7_stays cX7_stays 6 (some .long) ∈ g_T := g_in 1847 rfl rfl
theorem dX7_stays : g_MdV mX7_stays 2 := ⟨g_in 1845 (by decide +kernel) rfl, g_in 1846 (by decide +kernel) rfl, g_in 119 (by decide +kernel) rfl, kX7_stays, ⟨by decide +kernel, by decide +kernel, by decide +kernel⟩⟩
def mX7_surely : g_Y := (yX7_surely, cX7_surely, 1, (some .int))
set_option maxRecDepth 100000 in
theorem kX7_surely : Cond.code yX7_surely cX7_surely 1 (some .int) ∈ g_T := g_in 1777 rfl rfl
theorem dX7_surely : g_MdV mX7_surely 0 := ⟨g_in 1775 (by decide +kernel) rfl, g_in 1776 (by decide +kernel) rfl, g_in 119 (by decide +kernel) rfl, kX7_surely, ⟨by decide +kernel, by decide +kernel, by decide +kernel⟩⟩
def mX7_take : g_Y := (yX7_take, cX7_take, 2, (some .boolean))
set_option maxRecDepth 100000 in
theorem kX7_take : Cond.code yX7_take cX7_take 2 (some .boolean) ∈ g_T := g_in 1899 rfl rfl
theorem dX7_take : g_MdV mX7_take 1 := ⟨g_in 1897 (by decide +kernel) rfl, g_in 1898 (by decide +kernel) rfl, g_in 119 (by decide +kernel) rfl, kX7_take, ⟨by decide +kernel, by decide +kernel, by decide +kernel⟩⟩
def mX7_thrown : g_Y := (yX7_thrown, cX7_thrown, 1, (some .int))
set_option maxRecDepth 100000 in
theorem kX7_thrown : Cond.code yX7_thrown cX7_thrown 1 (some .int) ∈ g_T := g_in 1241 rfl rfl
theorem dX7_thrown : g_MdV mX7_thrown 0 := ⟨g_in 1239 (by decide +kernel) rfl, g_in 1240 (by decide +kernel) rfl, g_in 119 (by decide +kernel) rfl, kX7_thrown, ⟨by decide +kernel, by decide +kernel, by decide +kernel⟩⟩
def mX7_timesOf : g_Y := (yX7_timesOf, cX7_timesOf, 3, (some .int))
set_option maxRecDepth 100000 in
theorem kX7_timesOf : Cond.code yX7_timesOf cX7_timesOf 3 (some .int) ∈ g_T := g_in 1594 rfl rfl
theorem dX7_timesOf : g_MdV mX7_timesOf 1 := ⟨g_in 1593 (by decide +kernel) rfl, g_in 78 (by decide +kernel) rfl, g_in 119 (by decide +kernel) rfl, kX7_timesOf, ⟨by decide +kernel, by decide +kernel, by decide +kernel⟩⟩
def mX7_trouble : g_Y := (yX7_trouble, cX7_trouble, 1, (some .int))
set_option maxRecDepth 100000 in
theorem kX7_trouble : Cond.code yX7_trouble cX7_trouble 1 (some .int) ∈ g_T := g_in 1935 rfl rfl
theorem dX7_trouble : g_MdV mX7_trouble 0 := ⟨g_in 1933 (by decide +kernel) rfl, g_in 1934 (by decide +kernel) rfl, g_in 119 (by decide +kernel) rfl, kX7_trouble, ⟨by decide +kernel, by decide +kernel, by decide +kernel⟩⟩
def mX7_twins : g_Y := (yX7_twins, cX7_twins, 5, (some .int))
set_option maxRecDepth 100000 in
theorem kX7_twins : Cond.code yX7_twins cX7_twins 5 (some .int) ∈ g_T := g_in 1741 rfl rfl
theorem dX7_twins : g_MdV mX7_twins 0 := ⟨g_in 1739 (by decide +kernel) rfl, g_in 1740 (by decide +kernel) rfl, g_in 119 (by decide +kernel) rfl, kX7_twins, ⟨by decide +kernel, by decide +kernel, by decide +kernel⟩⟩
def mX7_undo : g_Y := (yX7_undo, cX7_undo, 2, (some .boolean))
set_option maxRecDepth 100000 in
theorem kX7_undo : Cond.code yX7_undo cX7_undo 2 (some .boolean) ∈ g_T := g_in 1915 rfl rfl
theorem dX7_undo : g_MdV mX7_undo 0 := ⟨g_in 1913 (by decide +kernel) rfl, g_in 1914 (by decide +kernel) rfl, g_in 119 (by decide +kernel) rfl, kX7_undo, ⟨by decide +kernel, by decide +kernel, by decide +kernel⟩⟩
def mX7_used : g_Y := (yX7_used, cX7_used, 5, (some .int))
set_option maxRecDepth 100000 in
theorem kX7_used : Cond.code yX7_used cX7_used 5 (some .int) ∈ g_T := g_in 1606 rfl rfl
theorem dX7_used : g_MdV mX7_used 2 := ⟨g_in 1605 (by decide +kernel) rfl, g_in 80 (by decide +kernel) rfl, g_in 119 (by decide +kernel) rfl, kX7_used, ⟨by decide +kernel, by decide +kernel, by decide +kernel⟩⟩
def mX7_uses : g_Y := (yX7_uses, cX7_uses, 4, (some .int))
set_option maxRecDepth 100000 in
theorem kX7_uses : Cond.code yX7_uses cX7_uses 4 (some .int) ∈ g_T := g_in 1598 rfl rfl
theorem dX7_uses : g_MdV mX7_uses 2 := ⟨g_in 1596 (by decide +kernel) rfl, g_in 1597 (by decide +kernel) rfl, g_in 119 (by decide +kernel) rfl, kX7_uses, ⟨by decide +kernel, by decide +kernel, by decide +kernel⟩⟩
def mX7_where : g_Y := (yX7_where, cX7_where, 1, (some .int))
set_option maxRecDepth 100000 in
theorem kX7_where : Cond.code yX7_where cX7_where 1 (some .int) ∈ g_T := g_in 1554 rfl rfl
theorem dX7_where : g_MdV mX7_where 0 := ⟨g_in 1552 (by decide +kernel) rfl, g_in 1553 (by decide +kernel) rfl, g_in 119 (by decide +kernel) rfl, kX7_where, ⟨by decide +kernel, by decide +kernel, by decide +kernel⟩⟩
def mX7_whole : g_Y := (yX7_whole, cX7_whole, 4, (some .long))
set_option maxRecDepth 100000 in
theorem kX7_whole : Cond.code yX7_whole cX7_whole 4 (some .long) ∈ g_T := g_in 1831 rfl rfl
theorem dX7_whole : g_MdV mX7_whole 0 := ⟨g_in 1830 (by decide +kernel) rfl, g_in 103 (by decide +kernel) rfl, g_in 119 (by decide +kernel) rfl, kX7_whole, ⟨by decide +kernel, by decide +kernel, by decide +kernel⟩⟩
def mX7_works : g_Y := (yX7_works, cX7_works, 2, none)
set_option maxRecDepth 100000 in
theorem kX7_works : Cond.code yX7_works cX7_works 2 none ∈ g_T := g_in 1602 rfl rfl
theorem dX7_works : g_MdV mX7_works 0 := ⟨g_in 1601 (by decide +kernel) rfl, g_in 79 (by decide +kernel) rfl, g_in 119 (by decide +kernel) rfl, kX7_works, ⟨by decide +kernel, by decide +kernel, by decide +kernel⟩⟩
def mX7_wrong : g_Y := (yX7_wrong, cX7_wrong, 5, (some .int))
set_option maxRecDepth 100000 in
theorem kX7_wrong : Cond.code yX7_wrong cX7_wrong 5 (some .int) ∈ g_T := g_in 1765 rfl rfl
theorem dX7_wrong : g_MdV mX7_wrong 1 := ⟨g_in 1764 (by decide +kernel) rfl, g_in 98 (by decide +kernel) rfl, g_in 119 (by decide +kernel) rfl, kX7_wrong, ⟨by decide +kernel, by decide +kernel, by decide +kernel⟩⟩
def mX7_year : g_Y := (yX7_year, cX7_year, 1, (some .int))
set_option maxRecDepth 100000 in
theorem kX7_year : Cond.code yX7_year cX7_year 1 (some .int) ∈ g_T := g_in 1871 rfl rfl
theorem dX7_year : g_MdV mX7_year 0 := ⟨g_in 1869 (by decide +kernel) rfl, g_in 1870 (by decide +kernel) rfl, g_in 119 (by decide +kernel) rfl, kX7_year, ⟨by decide +kernel, by decide +kernel, by decide +kernel⟩⟩
abbrev cJ_max : ByteArray := prog_15_method_65_code
def yJ_max : MethodName := ⟨"java/lang/Math", "max", "(II)I"⟩
def mJ_max : g_Y := (yJ_max, cJ_max, 2, (some .int))
set_option maxRecDepth 100000 in
theorem kJ_max : Cond.code yJ_max cJ_max 2 (some .int) ∈ g_T := g_in 426 rfl rfl
theorem dJ_max : g_MdS mJ_max 2 := ⟨g_in 425 (by decide +kernel) rfl, g_in 120 (by decide +kernel) rfl, kJ_max, ⟨by decide +kernel, by decide +kernel, by decide +kernel⟩⟩
abbrev cJ_min : ByteArray := prog_15_method_69_code
def yJ_min : MethodName := ⟨"java/lang/Math", "min", "(II)I"⟩
def mJ_min : g_Y := (yJ_min, cJ_min, 2, (some .int))
set_option maxRecDepth 100000 in
theorem kJ_min : Cond.code yJ_min cJ_min 2 (some .int) ∈ g_T := g_in 423 rfl rfl
theorem dJ_min : g_MdS mJ_min 2 := ⟨g_in 422 (by decide +kernel) rfl, g_in 120 (by decide +kernel) rfl, kJ_min, ⟨by decide +kernel, by decide +kernel, by decide +kernel⟩⟩
abbrev cJ_bitCount : ByteArray := prog_14_method_49_code
def yJ_bitCount : MethodName := ⟨"java/lang/Integer", "bitCount", "(I)I"⟩
def mJ_bitCount : g_Y := (yJ_bitCount, cJ_bitCount, 1, (some .int))
set_option maxRecDepth 100000 in
theorem kJ_bitCount : Cond.code yJ_bitCount cJ_bitCount 1 (some .int) ∈ g_T := g_in 783 rfl rfl
theorem dJ_bitCount : g_MdS mJ_bitCount 1 := ⟨g_in 782 (by decide +kernel) rfl, g_in 127 (by decide +kernel) rfl, kJ_bitCount, ⟨by decide +kernel, by decide +kernel, by decide +kernel⟩⟩
theorem lk0_20 : Cond.methodLinkNest RX0 20 yX2_init "WordHouse" ∈ g_N := g_inN 313 (by decide +kernel) rfl
theorem lk0_31 : Cond.methodLink RX0 31 yX2_copyFrom ∈ g_T := g_in 1001 (by decide +kernel) rfl
theorem lk1_30 : Cond.methodLink RX1 30 yX1_hasRoom ∈ g_T := g_in 404 (by decide +kernel) rfl
theorem lk1_40 : Cond.methodLink RX1 40 yJ_min ∈ g_T := g_in 421 (by decide +kernel) rfl
theorem lk1_46 : Cond.methodLink RX1 46 yJ_max ∈ g_T := g_in 424 (by decide +kernel) rfl
theorem lk1_55 : Cond.methodLink RX1 55 yX3_clear ∈ g_T := g_in 427 (by decide +kernel) rfl
theorem lk1_64 : Cond.methodLink RX1 64 yX1_step ∈ g_T := g_in 431 (by decide +kernel) rfl
theorem lk1_67 : Cond.methodLink RX1 67 yX1_readLine ∈ g_T := g_in 447 (by decide +kernel) rfl
theorem lk1_77 : Cond.methodLink RX1 77 yX1_fail ∈ g_T := g_in 463 (by decide +kernel) rfl
theorem lk1_80 : Cond.methodLink RX1 80 yX1_lineSort ∈ g_T := g_in 451 (by decide +kernel) rfl
theorem lk1_84 : Cond.methodLink RX1 84 yX1_isFull ∈ g_T := g_in 467 (by decide +kernel) rfl
theorem lk1_87 : Cond.methodLink RX1 87 yX1_readHouse ∈ g_T := g_in 471 (by decide +kernel) rfl
theorem lk1_90 : Cond.methodLink RX1 90 yX1_readEntry ∈ g_T := g_in 489 (by decide +kernel) rfl
theorem lk1_93 : Cond.methodLink RX1 93 yX1_readMeans ∈ g_T := g_in 514 (by decide +kernel) rfl
theorem lk1_96 : Cond.methodLink RX1 96 yX1_readRhymes ∈ g_T := g_in 533 (by decide +kernel) rfl
theorem lk1_99 : Cond.methodLink RX1 99 yX1_readSpeaker ∈ g_T := g_in 541 (by decide +kernel) rfl
theorem lk1_102 : Cond.methodLink RX1 102 yX1_readSays ∈ g_T := g_in 556 (by decide +kernel) rfl
theorem lk1_105 : Cond.methodLink RX1 105 yX1_readUnsure ∈ g_T := g_in 573 (by decide +kernel) rfl
theorem lk1_108 : Cond.methodLink RX1 108 yX1_readLeft ∈ g_T := g_in 585 (by decide +kernel) rfl
theorem lk1_148 : Cond.methodLink RX1 148 yX1_passWord ∈ g_T := g_in 476 (by decide +kernel) rfl
theorem lk1_152 : Cond.methodLink RX1 152 yX1_isWhole ∈ g_T := g_in 484 (by decide +kernel) rfl
theorem lk1_167 : Cond.methodLink RX1 167 yX1_isNewName ∈ g_T := g_in 493 (by decide +kernel) rfl
theorem lk1_172 : Cond.methodLink RX1 172 yX3_addEntry ∈ g_T := g_in 510 (by decide +kernel) rfl
theorem lk1_176 : Cond.methodLink RX1 176 yX1_entryHere ∈ g_T := g_in 518 (by decide +kernel) rfl
theorem lk1_183 : Cond.methodLinkNest RX1 183 yX5_has "WordHouse" ∈ g_N := g_inN 522 (by decide +kernel) rfl
theorem lk1_186 : Cond.methodLink RX1 186 yX3_addMeaning ∈ g_T := g_in 525 (by decide +kernel) rfl
theorem lk1_193 : Cond.methodLink RX1 193 yX3_addRhyme ∈ g_T := g_in 537 (by decide +kernel) rfl
theorem lk1_196 : Cond.methodLink RX1 196 yX1_kindHere ∈ g_T := g_in 545 (by decide +kernel) rfl
theorem lk1_199 : Cond.methodLink RX1 199 yX3_addSpeaker ∈ g_T := g_in 552 (by decide +kernel) rfl
theorem lk1_204 : Cond.methodLink RX1 204 yX1_isWord ∈ g_T := g_in 480 (by decide +kernel) rfl
theorem lk1_211 : Cond.methodLink RX1 211 yX1_speakerHere ∈ g_T := g_in 560 (by decide +kernel) rfl
theorem lk1_214 : Cond.methodLink RX1 214 yX3_findSaying ∈ g_T := g_in 564 (by decide +kernel) rfl
theorem lk1_219 : Cond.methodLink RX1 219 yX3_addSaying ∈ g_T := g_in 569 (by decide +kernel) rfl
theorem lk1_226 : Cond.methodLink RX1 226 yX3_addUnsure ∈ g_T := g_in 577 (by decide +kernel) rfl
theorem lk1_234 : Cond.methodLink RX1 234 yX3_addLeaver ∈ g_T := g_in 590 (by decide +kernel) rfl
theorem lk1_240 : Cond.methodLink RX1 240 yX1_isName ∈ g_T := g_in 497 (by decide +kernel) rfl
theorem lk1_243 : Cond.methodLink RX1 243 yX1_findEntry ∈ g_T := g_in 501 (by decide +kernel) rfl
theorem lk1_246 : Cond.methodLink RX1 246 yX1_findSpeaker ∈ g_T := g_in 505 (by decide +kernel) rfl
theorem lk1_249 : Cond.methodLink RX1 249 yX1_readWord ∈ g_T := g_in 435 (by decide +kernel) rfl
theorem lk1_252 : Cond.methodLink RX1 252 yX1_readWhole ∈ g_T := g_in 439 (by decide +kernel) rfl
theorem lk1_255 : Cond.methodLink RX1 255 yX1_readMark ∈ g_T := g_in 443 (by decide +kernel) rfl
theorem lk2_34 : Cond.methodLinkNest RX2 34 yX5_has "WordHouse" ∈ g_N := g_inN 654 (by decide +kernel) rfl
theorem lk3_73 : Cond.methodLink RX3 73 yX3_isEntry ∈ g_T := g_in 529 (by decide +kernel) rfl
theorem lk3_77 : Cond.methodLink RX3 77 yX3_isSaying ∈ g_T := g_in 581 (by decide +kernel) rfl
theorem lk3_80 : Cond.methodLink RX3 80 yX3_isSpeaker ∈ g_T := g_in 624 (by decide +kernel) rfl
theorem lk3_83 : Cond.methodLinkNest RX3 83 yX5_has "WordHouse" ∈ g_N := g_inN 628 (by decide +kernel) rfl
theorem lk3_87 : Cond.methodLink RX3 87 yJ_max ∈ g_T := g_in 629 (by decide +kernel) rfl
theorem lk3_93 : Cond.methodLink RX3 93 yX3_isExplained ∈ g_T := g_in 646 (by decide +kernel) rfl
theorem lk3_96 : Cond.methodLink RX3 96 yX3_explainedAmong ∈ g_T := g_in 642 (by decide +kernel) rfl
theorem lk3_99 : Cond.methodLink RX3 99 yX3_allMeanings ∈ g_T := g_in 689 (by decide +kernel) rfl
theorem lk3_103 : Cond.methodLink RX3 103 yJ_bitCount ∈ g_T := g_in 859 (by decide +kernel) rfl
theorem lk3_108 : Cond.methodLink RX3 108 yJ_min ∈ g_T := g_in 860 (by decide +kernel) rfl
theorem lk3_111 : Cond.methodLink RX3 111 yX3_withRhymes ∈ g_T := g_in 873 (by decide +kernel) rfl
theorem lk4_29 : Cond.methodLink RX4 29 yX3_isEntry ∈ g_T := g_in 618 (by decide +kernel) rfl
theorem lk4_36 : Cond.methodLinkNest RX4 36 yX5_has "WordHouse" ∈ g_N := g_inN 619 (by decide +kernel) rfl
theorem lk4_40 : Cond.methodLink RX4 40 yX3_timesIn ∈ g_T := g_in 620 (by decide +kernel) rfl
theorem lk4_53 : Cond.methodLink RX4 53 yX4_canPay ∈ g_T := g_in 634 (by decide +kernel) rfl
theorem lk4_60 : Cond.methodLink RX4 60 yX4_count ∈ g_T := g_in 614 (by decide +kernel) rfl
theorem lk4_67 : Cond.methodLink RX4 67 yX4_unpaidAmong ∈ g_T := g_in 630 (by decide +kernel) rfl
theorem lk4_77 : Cond.methodLink RX4 77 yX3_supported ∈ g_T := g_in 638 (by decide +kernel) rfl
theorem lk4_81 : Cond.methodLink RX4 81 yX2_keepOnly ∈ g_T := g_in 650 (by decide +kernel) rfl
theorem lk4_94 : Cond.methodLink RX4 94 yX4_pass ∈ g_T := g_in 988 (by decide +kernel) rfl
theorem lk5_9 : Cond.methodLinkNest RX5 9 yX3_init "WordHouse" ∈ g_N := g_inN 142 (by decide +kernel) rfl
theorem lk5_21 : Cond.methodLink RX5 21 yX1_init ∈ g_T := g_in 245 (by decide +kernel) rfl
theorem lk5_30 : Cond.methodLinkNest RX5 30 yX4_init "WordHouse" ∈ g_N := g_inN 296 (by decide +kernel) rfl
theorem lk5_37 : Cond.methodLink RX5 37 yX0_init ∈ g_T := g_in 306 (by decide +kernel) rfl
theorem lk5_44 : Cond.methodLinkNest RX5 44 yX2_init "WordHouse" ∈ g_N := g_inN 360 (by decide +kernel) rfl
theorem lk5_52 : Cond.methodLink RX5 52 yX1_hasRoom ∈ g_T := g_in 396 (by decide +kernel) rfl
theorem lk5_56 : Cond.methodLink RX5 56 yX1_put ∈ g_T := g_in 400 (by decide +kernel) rfl
theorem lk5_60 : Cond.methodLink RX5 60 yX1_fed ∈ g_T := g_in 405 (by decide +kernel) rfl
theorem lk5_64 : Cond.methodLink RX5 64 yX5_refused ∈ g_T := g_in 413 (by decide +kernel) rfl
theorem lk5_68 : Cond.methodLink RX5 68 yX1_read ∈ g_T := g_in 417 (by decide +kernel) rfl
theorem lk5_76 : Cond.methodLink RX5 76 yX2_begin ∈ g_T := g_in 594 (by decide +kernel) rfl
theorem lk5_79 : Cond.methodLink RX5 79 yX0_clear ∈ g_T := g_in 598 (by decide +kernel) rfl
theorem lk5_82 : Cond.methodLink RX5 82 yX5_setsThatFit ∈ g_T := g_in 602 (by decide +kernel) rfl
theorem lk5_88 : Cond.methodLink RX5 88 yX5_misfits ∈ g_T := g_in 606 (by decide +kernel) rfl
theorem lk5_94 : Cond.methodLink RX5 94 yX5_granted ∈ g_T := g_in 659 (by decide +kernel) rfl
theorem lk5_97 : Cond.methodLink RX5 97 yX1_faultMet ∈ g_T := g_in 667 (by decide +kernel) rfl
theorem lk5_103 : Cond.methodLink RX5 103 yX1_faultPlace ∈ g_T := g_in 675 (by decide +kernel) rfl
theorem lk5_106 : Cond.methodLink RX5 106 yX3_isEntry ∈ g_T := g_in 683 (by decide +kernel) rfl
theorem lk5_116 : Cond.methodLink RX5 116 yX5_has ∈ g_T := g_in 684 (by decide +kernel) rfl
theorem lk5_132 : Cond.methodLink RX5 132 yX3_explainedBy ∈ g_T := g_in 685 (by decide +kernel) rfl
theorem lk5_135 : Cond.methodLink RX5 135 yX3_isMeaning ∈ g_T := g_in 697 (by decide +kernel) rfl
theorem lk5_141 : Cond.methodLink RX5 141 yX3_isSpeaker ∈ g_T := g_in 705 (by decide +kernel) rfl
theorem lk5_147 : Cond.methodLink RX5 147 yX3_saidBy ∈ g_T := g_in 706 (by decide +kernel) rfl
theorem lk5_150 : Cond.methodLink RX5 150 yX5_isYear ∈ g_T := g_in 714 (by decide +kernel) rfl
theorem lk5_153 : Cond.methodLink RX5 153 yX3_findSaying ∈ g_T := g_in 717 (by decide +kernel) rfl
theorem lk5_157 : Cond.methodLink RX5 157 yX3_timesIn ∈ g_T := g_in 718 (by decide +kernel) rfl
theorem lk5_161 : Cond.methodLink RX5 161 yX4_count ∈ g_T := g_in 723 (by decide +kernel) rfl
theorem lk5_165 : Cond.methodLink RX5 165 yX4_used ∈ g_T := g_in 724 (by decide +kernel) rfl
theorem lk5_168 : Cond.methodLink RX5 168 yX4_canPay ∈ g_T := g_in 732 (by decide +kernel) rfl
theorem lk5_172 : Cond.methodLink RX5 172 yX5_isHouse ∈ g_T := g_in 737 (by decide +kernel) rfl
theorem lk5_179 : Cond.methodLink RX5 179 yX4_unpaidAmong ∈ g_T := g_in 745 (by decide +kernel) rfl
theorem lk5_183 : Cond.methodLink RX5 183 yX5_isForeseen ∈ g_T := g_in 750 (by decide +kernel) rfl
theorem lk5_186 : Cond.methodLink RX5 186 yX2_copyFrom ∈ g_T := g_in 753 (by decide +kernel) rfl
theorem lk5_190 : Cond.methodLink RX5 190 yX4_pass ∈ g_T := g_in 610 (by decide +kernel) rfl
theorem lk5_194 : Cond.methodLink RX5 194 yX5_yearsUntilOut ∈ g_T := g_in 764 (by decide +kernel) rfl
theorem lk5_197 : Cond.methodLink RX5 197 yX5_goingWith ∈ g_T := g_in 776 (by decide +kernel) rfl
theorem lk5_200 : Cond.methodLink RX5 200 yJ_bitCount ∈ g_T := g_in 781 (by decide +kernel) rfl
theorem lk5_205 : Cond.methodLink RX5 205 yX5_leastToKeep ∈ g_T := g_in 795 (by decide +kernel) rfl
theorem lk5_208 : Cond.methodLink RX5 208 yX3_grounded ∈ g_T := g_in 811 (by decide +kernel) rfl
theorem lk5_211 : Cond.methodLink RX5 211 yX5_fewestToPoint ∈ g_T := g_in 819 (by decide +kernel) rfl
theorem lk5_214 : Cond.methodLink RX5 214 yX3_depthOf ∈ g_T := g_in 827 (by decide +kernel) rfl
theorem lk5_217 : Cond.methodLink RX5 217 yX5_fewestToFell ∈ g_T := g_in 835 (by decide +kernel) rfl
theorem lk5_220 : Cond.methodLink RX5 220 yX3_rootsOf ∈ g_T := g_in 843 (by decide +kernel) rfl
theorem lk5_223 : Cond.methodLink RX5 223 yX3_distance ∈ g_T := g_in 855 (by decide +kernel) rfl
theorem lk5_226 : Cond.methodLink RX5 226 yX3_rhymesBetween ∈ g_T := g_in 869 (by decide +kernel) rfl
theorem lk5_229 : Cond.methodLink RX5 229 yX3_familyOf ∈ g_T := g_in 881 (by decide +kernel) rfl
theorem lk5_232 : Cond.methodLink RX5 232 yX5_nthBit ∈ g_T := g_in 893 (by decide +kernel) rfl
theorem lk5_238 : Cond.methodLink RX5 238 yX5_bestToAsk ∈ g_T := g_in 908 (by decide +kernel) rfl
theorem lk5_241 : Cond.methodLink RX5 241 yX5_mostLeftBy ∈ g_T := g_in 912 (by decide +kernel) rfl
theorem lk5_244 : Cond.methodLink RX5 244 yX5_inkRefusal ∈ g_T := g_in 929 (by decide +kernel) rfl
theorem lk5_247 : Cond.methodLink RX5 247 yX5_share ∈ g_T := g_in 933 (by decide +kernel) rfl
theorem lk5_251 : Cond.methodLink RX5 251 yX5_isRest ∈ g_T := g_in 940 (by decide +kernel) rfl
theorem lk5_257 : Cond.methodLink RX5 257 yX3_likelihood ∈ g_T := g_in 951 (by decide +kernel) rfl
theorem lk5_261 : Cond.methodLink RX5 261 yX3_certainty ∈ g_T := g_in 955 (by decide +kernel) rfl
theorem lk5_265 : Cond.methodLink RX5 265 yX5_ratio ∈ g_T := g_in 960 (by decide +kernel) rfl
theorem lk5_274 : Cond.methodLink RX5 274 yX5_isSeed ∈ g_T := g_in 979 (by decide +kernel) rfl
theorem lk5_280 : Cond.methodLink RX5 280 yX4_passMoody ∈ g_T := g_in 983 (by decide +kernel) rfl
theorem lk5_284 : Cond.methodLink RX5 284 yX0_remember ∈ g_T := g_in 997 (by decide +kernel) rfl
theorem lk5_287 : Cond.methodLink RX5 287 yX2_keepOnly ∈ g_T := g_in 1014 (by decide +kernel) rfl
theorem lk5_290 : Cond.methodLink RX5 290 yX5_denied ∈ g_T := g_in 1019 (by decide +kernel) rfl
theorem lk5_293 : Cond.methodLink RX5 293 yX3_isExplained ∈ g_T := g_in 1023 (by decide +kernel) rfl
theorem lk5_296 : Cond.methodLink RX5 296 yX5_allowed ∈ g_T := g_in 1024 (by decide +kernel) rfl
theorem lk5_299 : Cond.methodLink RX5 299 yX0_takeBack ∈ g_T := g_in 1036 (by decide +kernel) rfl
theorem lk5_303 : Cond.methodLink RX5 303 yX0_keepImage ∈ g_T := g_in 1044 (by decide +kernel) rfl
theorem lk5_307 : Cond.methodLink RX5 307 yX0_returnTo ∈ g_T := g_in 1052 (by decide +kernel) rfl
theorem lk5_329 : Cond.methodLink RX5 329 yX0_undoable ∈ g_T := g_in 1060 (by decide +kernel) rfl
theorem lk5_332 : Cond.methodLink RX5 332 yX0_images ∈ g_T := g_in 1064 (by decide +kernel) rfl
theorem lk5_336 : Cond.methodLink RX5 336 yX3_supported ∈ g_T := g_in 780 (by decide +kernel) rfl
theorem lk5_339 : Cond.methodLink RX5 339 yX5_isKeptBy ∈ g_T := g_in 799 (by decide +kernel) rfl
theorem lk5_342 : Cond.methodLink RX5 342 yX3_leaversIn ∈ g_T := g_in 655 (by decide +kernel) rfl
theorem lk5_345 : Cond.methodLink RX5 345 yJ_max ∈ g_T := g_in 916 (by decide +kernel) rfl
theorem lk5_350 : Cond.methodLink RX5 350 yX5_commonDivisor ∈ g_T := g_in 963 (by decide +kernel) rfl
theorem lk7_45 : Cond.methodLink RX7 45 yX7_refused ∈ g_T := g_in 1250 (by decide +kernel) rfl
theorem lk7_49 : Cond.methodLink RX7 49 yX7_good ∈ g_T := g_in 1543 (by decide +kernel) rfl
theorem lk7_52 : Cond.methodLink RX7 52 yX7_common ∈ g_T := g_in 1837 (by decide +kernel) rfl
theorem lk7_77 : Cond.methodLink RX7 77 yX7_byteAt ∈ g_T := g_in 1355 (by decide +kernel) rfl
theorem lk7_83 : Cond.methodLink RX7 83 yX7_isLetter ∈ g_T := g_in 1359 (by decide +kernel) rfl
theorem lk7_91 : Cond.methodLink RX7 91 yX7_isDigit ∈ g_T := g_in 1363 (by decide +kernel) rfl
theorem lk7_103 : Cond.methodLink RX7 103 yX7_packed ∈ g_T := g_in 1379 (by decide +kernel) rfl
theorem lk7_107 : Cond.methodLink RX7 107 yX7_goesOn ∈ g_T := g_in 1351 (by decide +kernel) rfl
theorem lk7_110 : Cond.methodLink RX7 110 yX7_flaw ∈ g_T := g_in 1434 (by decide +kernel) rfl
theorem lk7_114 : Cond.methodLink RX7 114 yX7_in ∈ g_T := g_in 1447 (by decide +kernel) rfl
theorem lk7_118 : Cond.methodLink RX7 118 yX7_isWord ∈ g_T := g_in 1375 (by decide +kernel) rfl
theorem lk7_122 : Cond.methodLink RX7 122 yX7_readWhole ∈ g_T := g_in 1443 (by decide +kernel) rfl
theorem lk7_151 : Cond.methodLink RX7 151 yX7_isName ∈ g_T := g_in 1464 (by decide +kernel) rfl
theorem lk7_155 : Cond.methodLink RX7 155 yX6_find ∈ g_T := g_in 1474 (by decide +kernel) rfl
theorem lk7_172 : Cond.methodLink RX7 172 yX7_knownOne ∈ g_T := g_in 1487 (by decide +kernel) rfl
theorem lk7_175 : Cond.methodLink RX7 175 yX7_readLine ∈ g_T := g_in 1370 (by decide +kernel) rfl
theorem lk7_178 : Cond.methodLink RX7 178 yX7_eats ∈ g_T := g_in 1494 (by decide +kernel) rfl
theorem lk7_185 : Cond.methodLink RX7 185 yX7_readHouse ∈ g_T := g_in 1430 (by decide +kernel) rfl
theorem lk7_188 : Cond.methodLink RX7 188 yX7_readEntry ∈ g_T := g_in 1452 (by decide +kernel) rfl
theorem lk7_191 : Cond.methodLink RX7 191 yX7_readMeans ∈ g_T := g_in 1483 (by decide +kernel) rfl
theorem lk7_194 : Cond.methodLink RX7 194 yX7_readRhymes ∈ g_T := g_in 1498 (by decide +kernel) rfl
theorem lk7_197 : Cond.methodLink RX7 197 yX7_readSpeaker ∈ g_T := g_in 1506 (by decide +kernel) rfl
theorem lk7_200 : Cond.methodLink RX7 200 yX7_readSays ∈ g_T := g_in 1513 (by decide +kernel) rfl
theorem lk7_203 : Cond.methodLink RX7 203 yX7_readUnsure ∈ g_T := g_in 1522 (by decide +kernel) rfl
theorem lk7_206 : Cond.methodLink RX7 206 yX7_readLeft ∈ g_T := g_in 1530 (by decide +kernel) rfl
theorem lk7_210 : Cond.methodLink RX7 210 yX7_readPart ∈ g_T := g_in 1439 (by decide +kernel) rfl
theorem lk7_218 : Cond.methodLink RX7 218 yX7_lineBegins ∈ g_T := g_in 1456 (by decide +kernel) rfl
theorem lk7_222 : Cond.methodLink RX7 222 yX7_readFresh ∈ g_T := g_in 1460 (by decide +kernel) rfl
theorem lk7_228 : Cond.methodLink RX7 228 yX7_names ∈ g_T := g_in 1479 (by decide +kernel) rfl
theorem lk7_239 : Cond.methodLink RX7 239 yX7_bit ∈ g_T := g_in 1491 (by decide +kernel) rfl
theorem lk7_249 : Cond.methodLink RX7 249 yX7_readKnown ∈ g_T := g_in 1502 (by decide +kernel) rfl
theorem lk7_269 : Cond.methodLink RX7 269 yX6_saying ∈ g_T := g_in 1517 (by decide +kernel) rfl
theorem lk7_285 : Cond.methodLink RX7 285 yX6_isUnsure ∈ g_T := g_in 1526 (by decide +kernel) rfl
theorem lk7_303 : Cond.methodLinkNest RX7 303 yX6_init "WordHouseModel" ∈ g_N := g_inN 1256 (by decide +kernel) rfl
theorem lk7_304 : Cond.methodLink RX7 304 yX7_readAll ∈ g_T := g_in 1366 (by decide +kernel) rfl
theorem lk7_309 : Cond.methodLink RX7 309 yX7_asTold ∈ g_T := g_in 1535 (by decide +kernel) rfl
theorem lk7_318 : Cond.methodLink RX7 318 yX7_all ∈ g_T := g_in 1539 (by decide +kernel) rfl
theorem lk7_324 : Cond.methodLink RX7 324 yX7_timesOf ∈ g_T := g_in 1591 (by decide +kernel) rfl
theorem lk7_330 : Cond.methodLink RX7 330 yX7_saidBy ∈ g_T := g_in 1587 (by decide +kernel) rfl
theorem lk7_333 : Cond.methodLink RX7 333 yX7_used ∈ g_T := g_in 1603 (by decide +kernel) rfl
theorem lk7_336 : Cond.methodLink RX7 336 yX7_isPaid ∈ g_T := g_in 1611 (by decide +kernel) rfl
theorem lk7_339 : Cond.methodLink RX7 339 yX7_isExplained ∈ g_T := g_in 1639 (by decide +kernel) rfl
theorem lk7_342 : Cond.methodLink RX7 342 yX7_debts ∈ g_T := g_in 1623 (by decide +kernel) rfl
theorem lk7_345 : Cond.methodLink RX7 345 yX7_settled ∈ g_T := g_in 1635 (by decide +kernel) rfl
theorem lk7_348 : Cond.methodLink RX7 348 yX7_stay ∈ g_T := g_in 1643 (by decide +kernel) rfl
theorem lk7_357 : Cond.methodLink RX7 357 yX7_aYear ∈ g_T := g_in 1631 (by decide +kernel) rfl
theorem lk7_360 : Cond.methodLink RX7 360 yX7_isEntry ∈ g_T := g_in 1559 (by decide +kernel) rfl
theorem lk7_363 : Cond.methodLink RX7 363 yX7_explainedBy ∈ g_T := g_in 1563 (by decide +kernel) rfl
theorem lk7_366 : Cond.methodLink RX7 366 yX7_isSpeaker ∈ g_T := g_in 1575 (by decide +kernel) rfl
theorem lk7_369 : Cond.methodLink RX7 369 yX7_refusesYear ∈ g_T := g_in 1583 (by decide +kernel) rfl
theorem lk7_373 : Cond.methodLink RX7 373 yX7_works ∈ g_T := g_in 1599 (by decide +kernel) rfl
theorem lk7_376 : Cond.methodLink RX7 376 yX7_goesWith ∈ g_T := g_in 1659 (by decide +kernel) rfl
theorem lk7_379 : Cond.methodLink RX7 379 yX7_bits ∈ g_T := g_in 1663 (by decide +kernel) rfl
theorem lk7_382 : Cond.methodLink RX7 382 yX7_refusesLodger ∈ g_T := g_in 1670 (by decide +kernel) rfl
theorem lk7_385 : Cond.methodLink RX7 385 yX7_keeps ∈ g_T := g_in 1678 (by decide +kernel) rfl
theorem lk7_388 : Cond.methodLink RX7 388 yX7_grounded ∈ g_T := g_in 1690 (by decide +kernel) rfl
theorem lk7_391 : Cond.methodLink RX7 391 yX7_deepens ∈ g_T := g_in 1702 (by decide +kernel) rfl
theorem lk7_394 : Cond.methodLink RX7 394 yX7_rootsOf ∈ g_T := g_in 1714 (by decide +kernel) rfl
theorem lk7_397 : Cond.methodLink RX7 397 yX7_meanings ∈ g_T := g_in 1730 (by decide +kernel) rfl
theorem lk7_399 : Cond.methodLink RX7 399 yX7_meant ∈ g_T := g_in 1734 (by decide +kernel) rfl
theorem lk7_402 : Cond.methodLink RX7 402 yX7_between ∈ g_T := g_in 1726 (by decide +kernel) rfl
theorem lk7_405 : Cond.methodLink RX7 405 yX7_rhymesOver ∈ g_T := g_in 1746 (by decide +kernel) rfl
theorem lk7_417 : Cond.methodLink RX7 417 yX7_wrong ∈ g_T := g_in 1762 (by decide +kernel) rfl
theorem lk7_420 : Cond.methodLink RX7 420 yX7_fitting ∈ g_T := g_in 1758 (by decide +kernel) rfl
theorem lk7_426 : Cond.methodLink RX7 426 yX7_asks ∈ g_T := g_in 1782 (by decide +kernel) rfl
theorem lk7_429 : Cond.methodLink RX7 429 yX7_refusesInk ∈ g_T := g_in 1798 (by decide +kernel) rfl
theorem lk7_432 : Cond.methodLink RX7 432 yX7_lost ∈ g_T := g_in 1802 (by decide +kernel) rfl
theorem lk7_435 : Cond.methodLink RX7 435 yX7_mended ∈ g_T := g_in 1806 (by decide +kernel) rfl
theorem lk7_439 : Cond.methodLink RX7 439 yX7_isRest ∈ g_T := g_in 1813 (by decide +kernel) rfl
theorem lk7_444 : Cond.methodLink RX7 444 yX7_partOf ∈ g_T := g_in 1824 (by decide +kernel) rfl
theorem lk7_448 : Cond.methodLink RX7 448 yX7_whole ∈ g_T := g_in 1828 (by decide +kernel) rfl
theorem lk7_451 : Cond.methodLink RX7 451 yX7_fraction ∈ g_T := g_in 1833 (by decide +kernel) rfl
theorem lk7_456 : Cond.methodLink RX7 456 yX7_refusesSeed ∈ g_T := g_in 1852 (by decide +kernel) rfl
theorem lk7_459 : Cond.methodLink RX7 459 yX7_aMoodyYear ∈ g_T := g_in 1857 (by decide +kernel) rfl
theorem lk7_462 : Cond.methodLink RX7 462 yX7_remembers ∈ g_T := g_in 1876 (by decide +kernel) rfl
theorem lk7_465 : Cond.methodLink RX7 465 yX7_remains ∈ g_T := g_in 1880 (by decide +kernel) rfl
theorem lk7_468 : Cond.methodLink RX7 468 yX7_goesBy ∈ g_T := g_in 1872 (by decide +kernel) rfl
theorem lk7_472 : Cond.methodLink RX7 472 yX7_denied ∈ g_T := g_in 1900 (by decide +kernel) rfl
theorem lk7_475 : Cond.methodLink RX7 475 yX7_granted ∈ g_T := g_in 1904 (by decide +kernel) rfl
theorem lk8_7 : Cond.methodLink RL 7 yX5_led ∈ g_T := g_in 1076 (by decide +kernel) rfl
theorem lk8_15 : Cond.methodLink RL 15 yX5_init ∈ g_T := g_in 134 (by decide +kernel) rfl
theorem lk8_18 : Cond.methodLink RL 18 yX7_init ∈ g_T := g_in 1143 (by decide +kernel) rfl
theorem lk8_19 : Cond.methodLink RL 19 yX5_feed ∈ g_T := g_in 392 (by decide +kernel) rfl
theorem lk8_23 : Cond.methodLink RL 23 yX7_feed ∈ g_T := g_in 1242 (by decide +kernel) rfl
theorem lk8_24 : Cond.methodLink RL 24 yX5_house ∈ g_T := g_in 409 (by decide +kernel) rfl
theorem lk8_27 : Cond.methodLink RL 27 yX7_house ∈ g_T := g_in 1246 (by decide +kernel) rfl
theorem lk8_28 : Cond.methodLink RL 28 yX5_fault ∈ g_T := g_in 663 (by decide +kernel) rfl
theorem lk8_32 : Cond.methodLink RL 32 yX7_fault ∈ g_T := g_in 1547 (by decide +kernel) rfl
theorem lk8_33 : Cond.methodLink RL 33 yX5_where ∈ g_T := g_in 671 (by decide +kernel) rfl
theorem lk8_36 : Cond.methodLink RL 36 yX7_where ∈ g_T := g_in 1551 (by decide +kernel) rfl
theorem lk8_37 : Cond.methodLink RL 37 yX5_entry ∈ g_T := g_in 679 (by decide +kernel) rfl
theorem lk8_41 : Cond.methodLink RL 41 yX7_entry ∈ g_T := g_in 1555 (by decide +kernel) rfl
theorem lk8_42 : Cond.methodLink RL 42 yX5_meaning ∈ g_T := g_in 693 (by decide +kernel) rfl
theorem lk8_45 : Cond.methodLink RL 45 yX7_meaning ∈ g_T := g_in 1567 (by decide +kernel) rfl
theorem lk8_46 : Cond.methodLink RL 46 yX5_speaker ∈ g_T := g_in 701 (by decide +kernel) rfl
theorem lk8_49 : Cond.methodLink RL 49 yX7_speaker ∈ g_T := g_in 1571 (by decide +kernel) rfl
theorem lk8_50 : Cond.methodLink RL 50 yX5_saysIn ∈ g_T := g_in 710 (by decide +kernel) rfl
theorem lk8_54 : Cond.methodLink RL 54 yX7_saysIn ∈ g_T := g_in 1579 (by decide +kernel) rfl
theorem lk8_55 : Cond.methodLink RL 55 yX5_uses ∈ g_T := g_in 719 (by decide +kernel) rfl
theorem lk8_58 : Cond.methodLink RL 58 yX7_uses ∈ g_T := g_in 1595 (by decide +kernel) rfl
theorem lk8_59 : Cond.methodLink RL 59 yX5_pays ∈ g_T := g_in 728 (by decide +kernel) rfl
theorem lk8_62 : Cond.methodLink RL 62 yX7_pays ∈ g_T := g_in 1607 (by decide +kernel) rfl
theorem lk8_63 : Cond.methodLink RL 63 yX5_lodgers ∈ g_T := g_in 733 (by decide +kernel) rfl
theorem lk8_66 : Cond.methodLink RL 66 yX7_lodgers ∈ g_T := g_in 1615 (by decide +kernel) rfl
theorem lk8_67 : Cond.methodLink RL 67 yX5_debtors ∈ g_T := g_in 741 (by decide +kernel) rfl
theorem lk8_70 : Cond.methodLink RL 70 yX7_debtors ∈ g_T := g_in 1619 (by decide +kernel) rfl
theorem lk8_71 : Cond.methodLink RL 71 yX5_after ∈ g_T := g_in 746 (by decide +kernel) rfl
theorem lk8_74 : Cond.methodLink RL 74 yX7_after ∈ g_T := g_in 1627 (by decide +kernel) rfl
theorem lk8_75 : Cond.methodLink RL 75 yX5_outIn ∈ g_T := g_in 760 (by decide +kernel) rfl
theorem lk8_78 : Cond.methodLink RL 78 yX7_outIn ∈ g_T := g_in 1647 (by decide +kernel) rfl
theorem lk8_79 : Cond.methodLink RL 79 yX5_emptyIn ∈ g_T := g_in 768 (by decide +kernel) rfl
theorem lk8_82 : Cond.methodLink RL 82 yX7_emptyIn ∈ g_T := g_in 1651 (by decide +kernel) rfl
theorem lk8_83 : Cond.methodLink RL 83 yX5_pillar ∈ g_T := g_in 772 (by decide +kernel) rfl
theorem lk8_86 : Cond.methodLink RL 86 yX7_pillar ∈ g_T := g_in 1655 (by decide +kernel) rfl
theorem lk8_87 : Cond.methodLink RL 87 yX5_goWith ∈ g_T := g_in 787 (by decide +kernel) rfl
theorem lk8_90 : Cond.methodLink RL 90 yX7_goWith ∈ g_T := g_in 1666 (by decide +kernel) rfl
theorem lk8_91 : Cond.methodLink RL 91 yX5_keep ∈ g_T := g_in 791 (by decide +kernel) rfl
theorem lk8_94 : Cond.methodLink RL 94 yX7_keep ∈ g_T := g_in 1674 (by decide +kernel) rfl
theorem lk8_95 : Cond.methodLink RL 95 yX5_dearest ∈ g_T := g_in 803 (by decide +kernel) rfl
theorem lk8_98 : Cond.methodLink RL 98 yX7_dearest ∈ g_T := g_in 1682 (by decide +kernel) rfl
theorem lk8_99 : Cond.methodLink RL 99 yX5_rings ∈ g_T := g_in 807 (by decide +kernel) rfl
theorem lk8_102 : Cond.methodLink RL 102 yX7_rings ∈ g_T := g_in 1686 (by decide +kernel) rfl
theorem lk8_103 : Cond.methodLink RL 103 yX5_point ∈ g_T := g_in 815 (by decide +kernel) rfl
theorem lk8_106 : Cond.methodLink RL 106 yX7_point ∈ g_T := g_in 1694 (by decide +kernel) rfl
theorem lk8_107 : Cond.methodLink RL 107 yX5_depth ∈ g_T := g_in 823 (by decide +kernel) rfl
theorem lk8_110 : Cond.methodLink RL 110 yX7_depth ∈ g_T := g_in 1698 (by decide +kernel) rfl
theorem lk8_111 : Cond.methodLink RL 111 yX5_fell ∈ g_T := g_in 831 (by decide +kernel) rfl
theorem lk8_114 : Cond.methodLink RL 114 yX7_fell ∈ g_T := g_in 1706 (by decide +kernel) rfl
theorem lk8_115 : Cond.methodLink RL 115 yX5_roots ∈ g_T := g_in 839 (by decide +kernel) rfl
theorem lk8_118 : Cond.methodLink RL 118 yX7_roots ∈ g_T := g_in 1710 (by decide +kernel) rfl
theorem lk8_119 : Cond.methodLink RL 119 yX5_circular ∈ g_T := g_in 847 (by decide +kernel) rfl
theorem lk8_122 : Cond.methodLink RL 122 yX7_circular ∈ g_T := g_in 1718 (by decide +kernel) rfl
theorem lk8_123 : Cond.methodLink RL 123 yX5_apart ∈ g_T := g_in 851 (by decide +kernel) rfl
theorem lk8_126 : Cond.methodLink RL 126 yX7_apart ∈ g_T := g_in 1722 (by decide +kernel) rfl
theorem lk8_127 : Cond.methodLink RL 127 yX5_twins ∈ g_T := g_in 861 (by decide +kernel) rfl
theorem lk8_130 : Cond.methodLink RL 130 yX7_twins ∈ g_T := g_in 1738 (by decide +kernel) rfl
theorem lk8_131 : Cond.methodLink RL 131 yX5_chime ∈ g_T := g_in 865 (by decide +kernel) rfl
theorem lk8_134 : Cond.methodLink RL 134 yX7_chime ∈ g_T := g_in 1742 (by decide +kernel) rfl
theorem lk8_135 : Cond.methodLink RL 135 yX5_families ∈ g_T := g_in 877 (by decide +kernel) rfl
theorem lk8_138 : Cond.methodLink RL 138 yX7_families ∈ g_T := g_in 1750 (by decide +kernel) rfl
theorem lk8_139 : Cond.methodLink RL 139 yX5_fits ∈ g_T := g_in 885 (by decide +kernel) rfl
theorem lk8_142 : Cond.methodLink RL 142 yX7_fits ∈ g_T := g_in 1754 (by decide +kernel) rfl
theorem lk8_143 : Cond.methodLink RL 143 yX5_fitAt ∈ g_T := g_in 889 (by decide +kernel) rfl
theorem lk8_146 : Cond.methodLink RL 146 yX7_fitAt ∈ g_T := g_in 1766 (by decide +kernel) rfl
theorem lk8_147 : Cond.methodLink RL 147 yX5_could ∈ g_T := g_in 896 (by decide +kernel) rfl
theorem lk8_150 : Cond.methodLink RL 150 yX7_could ∈ g_T := g_in 1770 (by decide +kernel) rfl
theorem lk8_151 : Cond.methodLink RL 151 yX5_surely ∈ g_T := g_in 900 (by decide +kernel) rfl
theorem lk8_154 : Cond.methodLink RL 154 yX7_surely ∈ g_T := g_in 1774 (by decide +kernel) rfl
theorem lk8_155 : Cond.methodLink RL 155 yX5_ask ∈ g_T := g_in 904 (by decide +kernel) rfl
theorem lk8_158 : Cond.methodLink RL 158 yX7_ask ∈ g_T := g_in 1778 (by decide +kernel) rfl
theorem lk8_159 : Cond.methodLink RL 159 yX5_askLeaves ∈ g_T := g_in 917 (by decide +kernel) rfl
theorem lk8_162 : Cond.methodLink RL 162 yX7_askLeaves ∈ g_T := g_in 1786 (by decide +kernel) rfl
theorem lk8_163 : Cond.methodLink RL 163 yX5_judge ∈ g_T := g_in 921 (by decide +kernel) rfl
theorem lk8_166 : Cond.methodLink RL 166 yX7_judge ∈ g_T := g_in 1790 (by decide +kernel) rfl
theorem lk8_167 : Cond.methodLink RL 167 yX5_mends ∈ g_T := g_in 925 (by decide +kernel) rfl
theorem lk8_171 : Cond.methodLink RL 171 yX7_mends ∈ g_T := g_in 1794 (by decide +kernel) rfl
theorem lk8_172 : Cond.methodLink RL 172 yX5_rests ∈ g_T := g_in 936 (by decide +kernel) rfl
theorem lk8_175 : Cond.methodLink RL 175 yX7_rests ∈ g_T := g_in 1809 (by decide +kernel) rfl
theorem lk8_176 : Cond.methodLink RL 176 yX5_rest ∈ g_T := g_in 943 (by decide +kernel) rfl
theorem lk8_179 : Cond.methodLink RL 179 yX7_rest ∈ g_T := g_in 1816 (by decide +kernel) rfl
theorem lk8_180 : Cond.methodLink RL 180 yX5_odds ∈ g_T := g_in 947 (by decide +kernel) rfl
theorem lk8_184 : Cond.methodLink RL 184 yX7_odds ∈ g_T := g_in 1820 (by decide +kernel) rfl
theorem lk8_185 : Cond.methodLink RL 185 yX5_mean ∈ g_T := g_in 966 (by decide +kernel) rfl
theorem lk8_188 : Cond.methodLink RL 188 yX7_mean ∈ g_T := g_in 1840 (by decide +kernel) rfl
theorem lk8_189 : Cond.methodLink RL 189 yX5_stays ∈ g_T := g_in 971 (by decide +kernel) rfl
theorem lk8_192 : Cond.methodLink RL 192 yX7_stays ∈ g_T := g_in 1844 (by decide +kernel) rfl
theorem lk8_193 : Cond.methodLink RL 193 yX5_moody ∈ g_T := g_in 975 (by decide +kernel) rfl
theorem lk8_196 : Cond.methodLink RL 196 yX7_moody ∈ g_T := g_in 1848 (by decide +kernel) rfl
theorem lk8_197 : Cond.methodLink RL 197 yX5_firstOut ∈ g_T := g_in 989 (by decide +kernel) rfl
theorem lk8_200 : Cond.methodLink RL 200 yX7_firstOut ∈ g_T := g_in 1864 (by decide +kernel) rfl
theorem lk8_201 : Cond.methodLink RL 201 yX5_year ∈ g_T := g_in 993 (by decide +kernel) rfl
theorem lk8_204 : Cond.methodLink RL 204 yX7_year ∈ g_T := g_in 1868 (by decide +kernel) rfl
theorem lk8_205 : Cond.methodLink RL 205 yX5_moodyYear ∈ g_T := g_in 1002 (by decide +kernel) rfl
theorem lk8_208 : Cond.methodLink RL 208 yX7_moodyYear ∈ g_T := g_in 1884 (by decide +kernel) rfl
theorem lk8_209 : Cond.methodLink RL 209 yX5_say ∈ g_T := g_in 1006 (by decide +kernel) rfl
theorem lk8_212 : Cond.methodLink RL 212 yX7_say ∈ g_T := g_in 1888 (by decide +kernel) rfl
theorem lk8_213 : Cond.methodLink RL 213 yX5_evict ∈ g_T := g_in 1010 (by decide +kernel) rfl
theorem lk8_216 : Cond.methodLink RL 216 yX7_evict ∈ g_T := g_in 1892 (by decide +kernel) rfl
theorem lk8_217 : Cond.methodLink RL 217 yX5_take ∈ g_T := g_in 1015 (by decide +kernel) rfl
theorem lk8_221 : Cond.methodLink RL 221 yX7_take ∈ g_T := g_in 1896 (by decide +kernel) rfl
theorem lk8_222 : Cond.methodLink RL 222 yX5_seed ∈ g_T := g_in 1028 (by decide +kernel) rfl
theorem lk8_225 : Cond.methodLink RL 225 yX7_seed ∈ g_T := g_in 1908 (by decide +kernel) rfl
theorem lk8_226 : Cond.methodLink RL 226 yX5_undo ∈ g_T := g_in 1032 (by decide +kernel) rfl
theorem lk8_230 : Cond.methodLink RL 230 yX7_undo ∈ g_T := g_in 1912 (by decide +kernel) rfl
theorem lk8_231 : Cond.methodLink RL 231 yX5_image ∈ g_T := g_in 1040 (by decide +kernel) rfl
theorem lk8_234 : Cond.methodLink RL 234 yX7_image ∈ g_T := g_in 1916 (by decide +kernel) rfl
theorem lk8_235 : Cond.methodLink RL 235 yX5_back ∈ g_T := g_in 1048 (by decide +kernel) rfl
theorem lk8_238 : Cond.methodLink RL 238 yX7_back ∈ g_T := g_in 1920 (by decide +kernel) rfl
theorem lk8_244 : Cond.methodLink RL 244 yX7_led ∈ g_T := g_in 1924 (by decide +kernel) rfl
theorem lk8_245 : Cond.methodLink RL 245 yX7_thrown ∈ g_T := g_in 1238 (by decide +kernel) rfl
theorem lk8_248 : Cond.methodLink RL 248 yX5_size ∈ g_T := g_in 1056 (by decide +kernel) rfl
theorem lk8_251 : Cond.methodLink RL 251 yX7_size ∈ g_T := g_in 1928 (by decide +kernel) rfl
theorem lk8_252 : Cond.methodLink RL 252 yX5_trouble ∈ g_T := g_in 1068 (by decide +kernel) rfl
theorem lk8_255 : Cond.methodLink RL 255 yX7_trouble ∈ g_T := g_in 1932 (by decide +kernel) rfl
