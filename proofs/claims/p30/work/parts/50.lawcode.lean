/-! code of the law, decoded -/
noncomputable def am_tL_law : Nat → am_I := fun pc => am_nd pc 943 (am_nd pc 590 (am_nd pc 409 (am_nd pc 327 (am_nd pc 280 (am_nd pc 257 (am_nd pc 22 (am_nd pc 18 (am_nd pc 16 (am_nd pc 11 (am_l3 pc 3 4 30) (am_l3 pc 11 12 30)) (am_nd pc 17 (am_lz pc 16 17 0) (am_l4 pc 17 18 3 3))) (am_nd pc 20 (am_nd pc 19 (am_l4 pc 18 19 2 3) (am_l3 pc 19 20 6)) (am_nd pc 21 (am_l3 pc 20 21 12) (am_lz pc 21 22 5)))) (am_nd pc 28 (am_nd pc 26 (am_nd pc 23 (am_l3 pc 22 23 14) (am_l5 pc 23 26 27 1668 4)) (am_nd pc 27 (am_l3 pc 26 27 6) (am_l4 pc 27 28 2 3))) (am_nd pc 31 (am_nd pc 29 (am_l3 pc 28 29 9) (am_lz pc 29 31 63)) (am_nd pc 32 (am_l3 pc 31 32 18) (am_nd pc 256 (am_lg pc 32 (0, 45, 1662, 0, 0, 0, [(0, 256), (1, 279), (2, 292), (3, 325), (4, 358), (5, 401), (6, 434), (7, 447), (8, 460), (9, 493), (10, 526), (11, 559), (12, 582), (13, 615), (14, 648), (15, 671), (16, 714), (17, 727), (18, 750), (19, 783), (20, 816), (21, 859), (22, 882), (23, 905), (24, 938), (25, 951), (26, 974), (27, 987), (28, 1000), (29, 1053), (30, 1066), (31, 1089), (32, 1102), (33, 1145), (34, 1178), (35, 1221), (36, 1244), (37, 1277), (38, 1290), (39, 1323), (40, 1376), (41, 1389), (42, 1412), (43, 1445), (44, 1458), (45, 1491), (46, 1544), (47, 1567), (48, 1600), (49, 1613), (50, 1626), (51, 1639)])) (am_l4 pc 256 257 6 1)))))) (am_nd pc 267 (am_nd pc 261 (am_nd pc 259 (am_nd pc 258 (am_l3 pc 257 258 6) (am_l4 pc 258 259 2 3)) (am_nd pc 260 (am_lz pc 259 260 1) (am_l3 pc 260 261 13))) (am_nd pc 265 (am_nd pc 262 (am_l3 pc 261 262 9) (am_l6 pc 262 265 40 61 2 8)) (am_nd pc 266 (am_l3 pc 265 266 28) (am_l4 pc 266 267 6 2)))) (am_nd pc 271 (am_nd pc 269 (am_nd pc 268 (am_l3 pc 267 268 6) (am_l4 pc 268 269 2 3)) (am_nd pc 270 (am_lz pc 269 270 1) (am_l3 pc 270 271 13))) (am_nd pc 275 (am_nd pc 272 (am_l3 pc 271 272 9) (am_l6 pc 272 275 40 148 2 9)) (am_nd pc 276 (am_l3 pc 275 276 28) (am_nd pc 279 (am_l4 pc 276 0 25 1662) (am_l4 pc 279 280 6 1))))))) (am_nd pc 303 (am_nd pc 294 (am_nd pc 288 (am_nd pc 284 (am_nd pc 283 (am_l6 pc 280 283 40 62 1 8) (am_l3 pc 283 284 28)) (am_nd pc 285 (am_l4 pc 284 285 6 2) (am_l6 pc 285 288 40 156 1 9))) (am_nd pc 292 (am_nd pc 289 (am_l3 pc 288 289 28) (am_l4 pc 289 0 25 1662)) (am_nd pc 293 (am_l4 pc 292 293 6 1) (am_l3 pc 293 294 6)))) (am_nd pc 298 (am_nd pc 296 (am_nd pc 295 (am_l4 pc 294 295 2 3) (am_lz pc 295 296 1)) (am_nd pc 297 (am_l3 pc 296 297 13) (am_l3 pc 297 298 9))) (am_nd pc 300 (am_nd pc 299 (am_l3 pc 298 299 6) (am_l4 pc 299 300 2 3)) (am_nd pc 301 (am_lz pc 300 301 2) (am_nd pc 302 (am_l3 pc 301 302 13) (am_l3 pc 302 303 9)))))) (am_nd pc 314 (am_nd pc 309 (am_nd pc 307 (am_nd pc 306 (am_l6 pc 303 306 40 63 3 8) (am_l3 pc 306 307 28)) (am_nd pc 308 (am_l4 pc 307 308 6 2) (am_l3 pc 308 309 6))) (am_nd pc 311 (am_nd pc 310 (am_l4 pc 309 310 2 3) (am_lz pc 310 311 1)) (am_nd pc 312 (am_l3 pc 311 312 13) (am_nd pc 313 (am_l3 pc 312 313 9) (am_l3 pc 313 314 6))))) (am_nd pc 318 (am_nd pc 316 (am_nd pc 315 (am_l4 pc 314 315 2 3) (am_lz pc 315 316 2)) (am_nd pc 317 (am_l3 pc 316 317 13) (am_l3 pc 317 318 9))) (am_nd pc 322 (am_nd pc 321 (am_l6 pc 318 321 40 173 3 9) (am_l3 pc 321 322 28)) (am_nd pc 325 (am_l4 pc 322 0 25 1662) (am_nd pc 326 (am_l4 pc 325 326 6 1) (am_l3 pc 326 327 6)))))))) (am_nd pc 368 (am_nd pc 346 (am_nd pc 335 (am_nd pc 331 (am_nd pc 329 (am_nd pc 328 (am_l4 pc 327 328 2 3) (am_lz pc 328 329 1)) (am_nd pc 330 (am_l3 pc 329 330 13) (am_l3 pc 330 331 9))) (am_nd pc 333 (am_nd pc 332 (am_l3 pc 331 332 6) (am_l4 pc 332 333 2 3)) (am_nd pc 334 (am_lz pc 333 334 2) (am_l3 pc 334 335 13)))) (am_nd pc 341 (am_nd pc 339 (am_nd pc 336 (am_l3 pc 335 336 9) (am_l6 pc 336 339 40 64 3 8)) (am_nd pc 340 (am_l3 pc 339 340 28) (am_l4 pc 340 341 6 2))) (am_nd pc 343 (am_nd pc 342 (am_l3 pc 341 342 6) (am_l4 pc 342 343 2 3)) (am_nd pc 344 (am_lz pc 343 344 1) (am_nd pc 345 (am_l3 pc 344 345 13) (am_l3 pc 345 346 9)))))) (am_nd pc 359 (am_nd pc 350 (am_nd pc 348 (am_nd pc 347 (am_l3 pc 346 347 6) (am_l4 pc 347 348 2 3)) (am_nd pc 349 (am_lz pc 348 349 2) (am_l3 pc 349 350 13))) (am_nd pc 354 (am_nd pc 351 (am_l3 pc 350 351 9) (am_l6 pc 351 354 40 174 3 9)) (am_nd pc 355 (am_l3 pc 354 355 28) (am_nd pc 358 (am_l4 pc 355 0 25 1662) (am_l4 pc 358 359 6 1))))) (am_nd pc 363 (am_nd pc 361 (am_nd pc 360 (am_l3 pc 359 360 6) (am_l4 pc 360 361 2 3)) (am_nd pc 362 (am_lz pc 361 362 1) (am_l3 pc 362 363 13))) (am_nd pc 365 (am_nd pc 364 (am_l3 pc 363 364 9) (am_l3 pc 364 365 6)) (am_nd pc 366 (am_l4 pc 365 366 2 3) (am_nd pc 367 (am_lz pc 366 367 2) (am_l3 pc 367 368 13))))))) (am_nd pc 387 (am_nd pc 378 (am_nd pc 372 (am_nd pc 370 (am_nd pc 369 (am_l3 pc 368 369 9) (am_l3 pc 369 370 6)) (am_nd pc 371 (am_l4 pc 370 371 2 3) (am_lz pc 371 372 3))) (am_nd pc 374 (am_nd pc 373 (am_l3 pc 372 373 13) (am_l3 pc 373 374 9)) (am_nd pc 377 (am_l6 pc 374 377 40 65 4 8) (am_l3 pc 377 378 28)))) (am_nd pc 382 (am_nd pc 380 (am_nd pc 379 (am_l4 pc 378 379 6 2) (am_l3 pc 379 380 6)) (am_nd pc 381 (am_l4 pc 380 381 2 3) (am_lz pc 381 382 1))) (am_nd pc 384 (am_nd pc 383 (am_l3 pc 382 383 13) (am_l3 pc 383 384 9)) (am_nd pc 385 (am_l3 pc 384 385 6) (am_nd pc 386 (am_l4 pc 385 386 2 3) (am_lz pc 386 387 2)))))) (am_nd pc 398 (am_nd pc 391 (am_nd pc 389 (am_nd pc 388 (am_l3 pc 387 388 13) (am_l3 pc 388 389 9)) (am_nd pc 390 (am_l3 pc 389 390 6) (am_l4 pc 390 391 2 3))) (am_nd pc 393 (am_nd pc 392 (am_lz pc 391 392 3) (am_l3 pc 392 393 13)) (am_nd pc 394 (am_l3 pc 393 394 9) (am_nd pc 397 (am_l6 pc 394 397 40 175 4 9) (am_l3 pc 397 398 28))))) (am_nd pc 404 (am_nd pc 402 (am_nd pc 401 (am_l4 pc 398 0 25 1662) (am_l4 pc 401 402 6 1)) (am_nd pc 403 (am_l3 pc 402 403 6) (am_l4 pc 403 404 2 3))) (am_nd pc 406 (am_nd pc 405 (am_lz pc 404 405 1) (am_l3 pc 405 406 13)) (am_nd pc 407 (am_l3 pc 406 407 9) (am_nd pc 408 (am_l3 pc 407 408 6) (am_l4 pc 408 409 2 3))))))))) (am_nd pc 502 (am_nd pc 461 (am_nd pc 430 (am_nd pc 419 (am_nd pc 415 (am_nd pc 411 (am_nd pc 410 (am_lz pc 409 410 2) (am_l3 pc 410 411 13)) (am_nd pc 412 (am_l3 pc 411 412 9) (am_l6 pc 412 415 40 66 3 8))) (am_nd pc 417 (am_nd pc 416 (am_l3 pc 415 416 28) (am_l4 pc 416 417 6 2)) (am_nd pc 418 (am_l3 pc 417 418 6) (am_l4 pc 418 419 2 3)))) (am_nd pc 423 (am_nd pc 421 (am_nd pc 420 (am_lz pc 419 420 1) (am_l3 pc 420 421 13)) (am_nd pc 422 (am_l3 pc 421 422 9) (am_l3 pc 422 423 6))) (am_nd pc 425 (am_nd pc 424 (am_l4 pc 423 424 2 3) (am_lz pc 424 425 2)) (am_nd pc 426 (am_l3 pc 425 426 13) (am_nd pc 427 (am_l3 pc 426 427 9) (am_l6 pc 427 430 40 176 3 9)))))) (am_nd pc 444 (am_nd pc 438 (am_nd pc 434 (am_nd pc 431 (am_l3 pc 430 431 28) (am_l4 pc 431 0 25 1662)) (am_nd pc 435 (am_l4 pc 434 435 6 1) (am_l6 pc 435 438 40 67 1 8))) (am_nd pc 440 (am_nd pc 439 (am_l3 pc 438 439 28) (am_l4 pc 439 440 6 2)) (am_nd pc 443 (am_l6 pc 440 443 40 177 1 9) (am_l3 pc 443 444 28)))) (am_nd pc 452 (am_nd pc 448 (am_nd pc 447 (am_l4 pc 444 0 25 1662) (am_l4 pc 447 448 6 1)) (am_nd pc 451 (am_l6 pc 448 451 40 68 1 8) (am_l3 pc 451 452 28))) (am_nd pc 456 (am_nd pc 453 (am_l4 pc 452 453 6 2) (am_l6 pc 453 456 40 181 1 9)) (am_nd pc 457 (am_l3 pc 456 457 28) (am_nd pc 460 (am_l4 pc 457 0 25 1662) (am_l4 pc 460 461 6 1))))))) (am_nd pc 480 (am_nd pc 469 (am_nd pc 465 (am_nd pc 463 (am_nd pc 462 (am_l3 pc 461 462 6) (am_l4 pc 462 463 2 3)) (am_nd pc 464 (am_lz pc 463 464 1) (am_l3 pc 464 465 13))) (am_nd pc 467 (am_nd pc 466 (am_l3 pc 465 466 9) (am_l3 pc 466 467 6)) (am_nd pc 468 (am_l4 pc 467 468 2 3) (am_lz pc 468 469 2)))) (am_nd pc 475 (am_nd pc 471 (am_nd pc 470 (am_l3 pc 469 470 13) (am_l3 pc 470 471 9)) (am_nd pc 474 (am_l6 pc 471 474 40 69 3 8) (am_l3 pc 474 475 29))) (am_nd pc 477 (am_nd pc 476 (am_l4 pc 475 476 6 2) (am_l3 pc 476 477 6)) (am_nd pc 478 (am_l4 pc 477 478 2 3) (am_nd pc 479 (am_lz pc 478 479 1) (am_l3 pc 479 480 13)))))) (am_nd pc 493 (am_nd pc 484 (am_nd pc 482 (am_nd pc 481 (am_l3 pc 480 481 9) (am_l3 pc 481 482 6)) (am_nd pc 483 (am_l4 pc 482 483 2 3) (am_lz pc 483 484 2))) (am_nd pc 486 (am_nd pc 485 (am_l3 pc 484 485 13) (am_l3 pc 485 486 9)) (am_nd pc 489 (am_l6 pc 486 489 40 186 3 9) (am_nd pc 490 (am_l3 pc 489 490 29) (am_l4 pc 490 0 25 1662))))) (am_nd pc 497 (am_nd pc 495 (am_nd pc 494 (am_l4 pc 493 494 6 1) (am_l3 pc 494 495 6)) (am_nd pc 496 (am_l4 pc 495 496 2 3) (am_lz pc 496 497 1))) (am_nd pc 499 (am_nd pc 498 (am_l3 pc 497 498 13) (am_l3 pc 498 499 9)) (am_nd pc 500 (am_l3 pc 499 500 6) (am_nd pc 501 (am_l4 pc 500 501 2 3) (am_lz pc 501 502 2)))))))) (am_nd pc 545 (am_nd pc 523 (am_nd pc 512 (am_nd pc 508 (am_nd pc 504 (am_nd pc 503 (am_l3 pc 502 503 13) (am_l3 pc 503 504 9)) (am_nd pc 507 (am_l6 pc 504 507 40 70 3 8) (am_l3 pc 507 508 29))) (am_nd pc 510 (am_nd pc 509 (am_l4 pc 508 509 6 2) (am_l3 pc 509 510 6)) (am_nd pc 511 (am_l4 pc 510 511 2 3) (am_lz pc 511 512 1)))) (am_nd pc 516 (am_nd pc 514 (am_nd pc 513 (am_l3 pc 512 513 13) (am_l3 pc 513 514 9)) (am_nd pc 515 (am_l3 pc 514 515 6) (am_l4 pc 515 516 2 3))) (am_nd pc 518 (am_nd pc 517 (am_lz pc 516 517 2) (am_l3 pc 517 518 13)) (am_nd pc 519 (am_l3 pc 518 519 9) (am_nd pc 522 (am_l6 pc 519 522 40 188 3 9) (am_l3 pc 522 523 29)))))) (am_nd pc 534 (am_nd pc 529 (am_nd pc 527 (am_nd pc 526 (am_l4 pc 523 0 25 1662) (am_l4 pc 526 527 6 1)) (am_nd pc 528 (am_l3 pc 527 528 6) (am_l4 pc 528 529 2 3))) (am_nd pc 531 (am_nd pc 530 (am_lz pc 529 530 1) (am_l3 pc 530 531 13)) (am_nd pc 532 (am_l3 pc 531 532 9) (am_nd pc 533 (am_l3 pc 532 533 6) (am_l4 pc 533 534 2 3))))) (am_nd pc 540 (am_nd pc 536 (am_nd pc 535 (am_lz pc 534 535 2) (am_l3 pc 535 536 13)) (am_nd pc 537 (am_l3 pc 536 537 9) (am_l6 pc 537 540 40 71 3 8))) (am_nd pc 542 (am_nd pc 541 (am_l3 pc 540 541 29) (am_l4 pc 541 542 6 2)) (am_nd pc 543 (am_l3 pc 542 543 6) (am_nd pc 544 (am_l4 pc 543 544 2 3) (am_lz pc 544 545 1))))))) (am_nd pc 568 (am_nd pc 555 (am_nd pc 549 (am_nd pc 547 (am_nd pc 546 (am_l3 pc 545 546 13) (am_l3 pc 546 547 9)) (am_nd pc 548 (am_l3 pc 547 548 6) (am_l4 pc 548 549 2 3))) (am_nd pc 551 (am_nd pc 550 (am_lz pc 549 550 2) (am_l3 pc 550 551 13)) (am_nd pc 552 (am_l3 pc 551 552 9) (am_l6 pc 552 555 40 190 3 9)))) (am_nd pc 561 (am_nd pc 559 (am_nd pc 556 (am_l3 pc 555 556 29) (am_l4 pc 556 0 25 1662)) (am_nd pc 560 (am_l4 pc 559 560 6 1) (am_l3 pc 560 561 6))) (am_nd pc 563 (am_nd pc 562 (am_l4 pc 561 562 2 3) (am_lz pc 562 563 1)) (am_nd pc 564 (am_l3 pc 563 564 13) (am_nd pc 565 (am_l3 pc 564 565 9) (am_l6 pc 565 568 40 72 2 8)))))) (am_nd pc 579 (am_nd pc 572 (am_nd pc 570 (am_nd pc 569 (am_l3 pc 568 569 28) (am_l4 pc 569 570 6 2)) (am_nd pc 571 (am_l3 pc 570 571 6) (am_l4 pc 571 572 2 3))) (am_nd pc 574 (am_nd pc 573 (am_lz pc 572 573 1) (am_l3 pc 573 574 13)) (am_nd pc 575 (am_l3 pc 574 575 9) (am_nd pc 578 (am_l6 pc 575 578 40 191 2 9) (am_l3 pc 578 579 28))))) (am_nd pc 585 (am_nd pc 583 (am_nd pc 582 (am_l4 pc 579 0 25 1662) (am_l4 pc 582 583 6 1)) (am_nd pc 584 (am_l3 pc 583 584 6) (am_l4 pc 584 585 2 3))) (am_nd pc 587 (am_nd pc 586 (am_lz pc 585 586 1) (am_l3 pc 586 587 13)) (am_nd pc 588 (am_l3 pc 587 588 9) (am_nd pc 589 (am_l3 pc 588 589 6) (am_l4 pc 589 590 2 3)))))))))) (am_nd pc 767 (am_nd pc 677 (am_nd pc 632 (am_nd pc 611 (am_nd pc 600 (am_nd pc 596 (am_nd pc 592 (am_nd pc 591 (am_lz pc 590 591 2) (am_l3 pc 591 592 13)) (am_nd pc 593 (am_l3 pc 592 593 9) (am_l6 pc 593 596 40 73 3 8))) (am_nd pc 598 (am_nd pc 597 (am_l3 pc 596 597 28) (am_l4 pc 597 598 6 2)) (am_nd pc 599 (am_l3 pc 598 599 6) (am_l4 pc 599 600 2 3)))) (am_nd pc 604 (am_nd pc 602 (am_nd pc 601 (am_lz pc 600 601 1) (am_l3 pc 601 602 13)) (am_nd pc 603 (am_l3 pc 602 603 9) (am_l3 pc 603 604 6))) (am_nd pc 606 (am_nd pc 605 (am_l4 pc 604 605 2 3) (am_lz pc 605 606 2)) (am_nd pc 607 (am_l3 pc 606 607 13) (am_nd pc 608 (am_l3 pc 607 608 9) (am_l6 pc 608 611 40 195 3 9)))))) (am_nd pc 621 (am_nd pc 617 (am_nd pc 615 (am_nd pc 612 (am_l3 pc 611 612 28) (am_l4 pc 612 0 25 1662)) (am_nd pc 616 (am_l4 pc 615 616 6 1) (am_l3 pc 616 617 6))) (am_nd pc 619 (am_nd pc 618 (am_l4 pc 617 618 2 3) (am_lz pc 618 619 1)) (am_nd pc 620 (am_l3 pc 619 620 13) (am_l3 pc 620 621 9)))) (am_nd pc 625 (am_nd pc 623 (am_nd pc 622 (am_l3 pc 621 622 6) (am_l4 pc 622 623 2 3)) (am_nd pc 624 (am_lz pc 623 624 2) (am_l3 pc 624 625 13))) (am_nd pc 629 (am_nd pc 626 (am_l3 pc 625 626 9) (am_l6 pc 626 629 40 74 3 8)) (am_nd pc 630 (am_l3 pc 629 630 28) (am_nd pc 631 (am_l4 pc 630 631 6 2) (am_l3 pc 631 632 6))))))) (am_nd pc 653 (am_nd pc 640 (am_nd pc 636 (am_nd pc 634 (am_nd pc 633 (am_l4 pc 632 633 2 3) (am_lz pc 633 634 1)) (am_nd pc 635 (am_l3 pc 634 635 13) (am_l3 pc 635 636 9))) (am_nd pc 638 (am_nd pc 637 (am_l3 pc 636 637 6) (am_l4 pc 637 638 2 3)) (am_nd pc 639 (am_lz pc 638 639 2) (am_l3 pc 639 640 13)))) (am_nd pc 648 (am_nd pc 644 (am_nd pc 641 (am_l3 pc 640 641 9) (am_l6 pc 641 644 40 197 3 9)) (am_nd pc 645 (am_l3 pc 644 645 28) (am_l4 pc 645 0 25 1662))) (am_nd pc 650 (am_nd pc 649 (am_l4 pc 648 649 6 1) (am_l3 pc 649 650 6)) (am_nd pc 651 (am_l4 pc 650 651 2 3) (am_nd pc 652 (am_lz pc 651 652 1) (am_l3 pc 652 653 13)))))) (am_nd pc 664 (am_nd pc 659 (am_nd pc 657 (am_nd pc 654 (am_l3 pc 653 654 9) (am_l6 pc 654 657 40 75 2 8)) (am_nd pc 658 (am_l3 pc 657 658 28) (am_l4 pc 658 659 6 2))) (am_nd pc 661 (am_nd pc 660 (am_l3 pc 659 660 6) (am_l4 pc 660 661 2 3)) (am_nd pc 662 (am_lz pc 661 662 1) (am_nd pc 663 (am_l3 pc 662 663 13) (am_l3 pc 663 664 9))))) (am_nd pc 672 (am_nd pc 668 (am_nd pc 667 (am_l6 pc 664 667 40 198 2 9) (am_l3 pc 667 668 28)) (am_nd pc 671 (am_l4 pc 668 0 25 1662) (am_l4 pc 671 672 6 1))) (am_nd pc 674 (am_nd pc 673 (am_l3 pc 672 673 6) (am_l4 pc 673 674 2 3)) (am_nd pc 675 (am_lz pc 674 675 1) (am_nd pc 676 (am_l3 pc 675 676 13) (am_l3 pc 676 677 9)))))))) (am_nd pc 720 (am_nd pc 696 (am_nd pc 685 (am_nd pc 681 (am_nd pc 679 (am_nd pc 678 (am_l3 pc 677 678 6) (am_l4 pc 678 679 2 3)) (am_nd pc 680 (am_lz pc 679 680 2) (am_l3 pc 680 681 13))) (am_nd pc 683 (am_nd pc 682 (am_l3 pc 681 682 9) (am_l3 pc 682 683 6)) (am_nd pc 684 (am_l4 pc 683 684 2 3) (am_lz pc 684 685 3)))) (am_nd pc 691 (am_nd pc 687 (am_nd pc 686 (am_l3 pc 685 686 13) (am_l3 pc 686 687 9)) (am_nd pc 690 (am_l6 pc 687 690 40 76 4 8) (am_l3 pc 690 691 28))) (am_nd pc 693 (am_nd pc 692 (am_l4 pc 691 692 6 2) (am_l3 pc 692 693 6)) (am_nd pc 694 (am_l4 pc 693 694 2 3) (am_nd pc 695 (am_lz pc 694 695 1) (am_l3 pc 695 696 13)))))) (am_nd pc 705 (am_nd pc 700 (am_nd pc 698 (am_nd pc 697 (am_l3 pc 696 697 9) (am_l3 pc 697 698 6)) (am_nd pc 699 (am_l4 pc 698 699 2 3) (am_lz pc 699 700 2))) (am_nd pc 702 (am_nd pc 701 (am_l3 pc 700 701 13) (am_l3 pc 701 702 9)) (am_nd pc 703 (am_l3 pc 702 703 6) (am_nd pc 704 (am_l4 pc 703 704 2 3) (am_lz pc 704 705 3))))) (am_nd pc 711 (am_nd pc 707 (am_nd pc 706 (am_l3 pc 705 706 13) (am_l3 pc 706 707 9)) (am_nd pc 710 (am_l6 pc 707 710 40 200 4 9) (am_l3 pc 710 711 28))) (am_nd pc 715 (am_nd pc 714 (am_l4 pc 711 0 25 1662) (am_l4 pc 714 715 6 1)) (am_nd pc 718 (am_l6 pc 715 718 40 77 1 8) (am_nd pc 719 (am_l3 pc 718 719 28) (am_l4 pc 719 720 6 2))))))) (am_nd pc 743 (am_nd pc 732 (am_nd pc 728 (am_nd pc 724 (am_nd pc 723 (am_l6 pc 720 723 40 202 1 9) (am_l3 pc 723 724 28)) (am_nd pc 727 (am_l4 pc 724 0 25 1662) (am_l4 pc 727 728 6 1))) (am_nd pc 730 (am_nd pc 729 (am_l3 pc 728 729 6) (am_l4 pc 729 730 2 3)) (am_nd pc 731 (am_lz pc 730 731 1) (am_l3 pc 731 732 13)))) (am_nd pc 738 (am_nd pc 736 (am_nd pc 733 (am_l3 pc 732 733 9) (am_l6 pc 733 736 40 78 2 8)) (am_nd pc 737 (am_l3 pc 736 737 28) (am_l4 pc 737 738 6 2))) (am_nd pc 740 (am_nd pc 739 (am_l3 pc 738 739 6) (am_l4 pc 739 740 2 3)) (am_nd pc 741 (am_lz pc 740 741 1) (am_nd pc 742 (am_l3 pc 741 742 13) (am_l3 pc 742 743 9)))))) (am_nd pc 756 (am_nd pc 751 (am_nd pc 747 (am_nd pc 746 (am_l6 pc 743 746 40 204 2 9) (am_l3 pc 746 747 28)) (am_nd pc 750 (am_l4 pc 747 0 25 1662) (am_l4 pc 750 751 6 1))) (am_nd pc 753 (am_nd pc 752 (am_l3 pc 751 752 6) (am_l4 pc 752 753 2 3)) (am_nd pc 754 (am_lz pc 753 754 1) (am_nd pc 755 (am_l3 pc 754 755 13) (am_l3 pc 755 756 9))))) (am_nd pc 760 (am_nd pc 758 (am_nd pc 757 (am_l3 pc 756 757 6) (am_l4 pc 757 758 2 3)) (am_nd pc 759 (am_lz pc 758 759 2) (am_l3 pc 759 760 13))) (am_nd pc 764 (am_nd pc 761 (am_l3 pc 760 761 9) (am_l6 pc 761 764 40 79 3 8)) (am_nd pc 765 (am_l3 pc 764 765 28) (am_nd pc 766 (am_l4 pc 765 766 6 2) (am_l3 pc 766 767 6))))))))) (am_nd pc 849 (am_nd pc 808 (am_nd pc 788 (am_nd pc 775 (am_nd pc 771 (am_nd pc 769 (am_nd pc 768 (am_l4 pc 767 768 2 3) (am_lz pc 768 769 1)) (am_nd pc 770 (am_l3 pc 769 770 13) (am_l3 pc 770 771 9))) (am_nd pc 773 (am_nd pc 772 (am_l3 pc 771 772 6) (am_l4 pc 772 773 2 3)) (am_nd pc 774 (am_lz pc 773 774 2) (am_l3 pc 774 775 13)))) (am_nd pc 783 (am_nd pc 779 (am_nd pc 776 (am_l3 pc 775 776 9) (am_l6 pc 776 779 40 205 3 9)) (am_nd pc 780 (am_l3 pc 779 780 28) (am_l4 pc 780 0 25 1662))) (am_nd pc 785 (am_nd pc 784 (am_l4 pc 783 784 6 1) (am_l3 pc 784 785 6)) (am_nd pc 786 (am_l4 pc 785 786 2 3) (am_nd pc 787 (am_lz pc 786 787 1) (am_l3 pc 787 788 13)))))) (am_nd pc 799 (am_nd pc 792 (am_nd pc 790 (am_nd pc 789 (am_l3 pc 788 789 9) (am_l3 pc 789 790 6)) (am_nd pc 791 (am_l4 pc 790 791 2 3) (am_lz pc 791 792 2))) (am_nd pc 794 (am_nd pc 793 (am_l3 pc 792 793 13) (am_l3 pc 793 794 9)) (am_nd pc 797 (am_l6 pc 794 797 40 80 3 8) (am_nd pc 798 (am_l3 pc 797 798 28) (am_l4 pc 798 799 6 2))))) (am_nd pc 803 (am_nd pc 801 (am_nd pc 800 (am_l3 pc 799 800 6) (am_l4 pc 800 801 2 3)) (am_nd pc 802 (am_lz pc 801 802 1) (am_l3 pc 802 803 13))) (am_nd pc 805 (am_nd pc 804 (am_l3 pc 803 804 9) (am_l3 pc 804 805 6)) (am_nd pc 806 (am_l4 pc 805 806 2 3) (am_nd pc 807 (am_lz pc 806 807 2) (am_l3 pc 807 808 13))))))) (am_nd pc 829 (am_nd pc 820 (am_nd pc 816 (am_nd pc 812 (am_nd pc 809 (am_l3 pc 808 809 9) (am_l6 pc 809 812 40 207 3 9)) (am_nd pc 813 (am_l3 pc 812 813 28) (am_l4 pc 813 0 25 1662))) (am_nd pc 818 (am_nd pc 817 (am_l4 pc 816 817 6 1) (am_l3 pc 817 818 6)) (am_nd pc 819 (am_l4 pc 818 819 2 3) (am_lz pc 819 820 1)))) (am_nd pc 824 (am_nd pc 822 (am_nd pc 821 (am_l3 pc 820 821 13) (am_l3 pc 821 822 9)) (am_nd pc 823 (am_l3 pc 822 823 6) (am_l4 pc 823 824 2 3))) (am_nd pc 826 (am_nd pc 825 (am_lz pc 824 825 2) (am_l3 pc 825 826 13)) (am_nd pc 827 (am_l3 pc 826 827 9) (am_nd pc 828 (am_l3 pc 827 828 6) (am_l4 pc 828 829 2 3)))))) (am_nd pc 840 (am_nd pc 835 (am_nd pc 831 (am_nd pc 830 (am_lz pc 829 830 3) (am_l3 pc 830 831 13)) (am_nd pc 832 (am_l3 pc 831 832 9) (am_l6 pc 832 835 40 81 4 8))) (am_nd pc 837 (am_nd pc 836 (am_l3 pc 835 836 28) (am_l4 pc 836 837 6 2)) (am_nd pc 838 (am_l3 pc 837 838 6) (am_nd pc 839 (am_l4 pc 838 839 2 3) (am_lz pc 839 840 1))))) (am_nd pc 844 (am_nd pc 842 (am_nd pc 841 (am_l3 pc 840 841 13) (am_l3 pc 841 842 9)) (am_nd pc 843 (am_l3 pc 842 843 6) (am_l4 pc 843 844 2 3))) (am_nd pc 846 (am_nd pc 845 (am_lz pc 844 845 2) (am_l3 pc 845 846 13)) (am_nd pc 847 (am_l3 pc 846 847 9) (am_nd pc 848 (am_l3 pc 847 848 6) (am_l4 pc 848 849 2 3)))))))) (am_nd pc 896 (am_nd pc 872 (am_nd pc 861 (am_nd pc 855 (am_nd pc 851 (am_nd pc 850 (am_lz pc 849 850 3) (am_l3 pc 850 851 13)) (am_nd pc 852 (am_l3 pc 851 852 9) (am_l6 pc 852 855 40 208 4 9))) (am_nd pc 859 (am_nd pc 856 (am_l3 pc 855 856 28) (am_l4 pc 856 0 25 1662)) (am_nd pc 860 (am_l4 pc 859 860 6 1) (am_l3 pc 860 861 6)))) (am_nd pc 865 (am_nd pc 863 (am_nd pc 862 (am_l4 pc 861 862 2 3) (am_lz pc 862 863 1)) (am_nd pc 864 (am_l3 pc 863 864 13) (am_l3 pc 864 865 9))) (am_nd pc 869 (am_nd pc 868 (am_l6 pc 865 868 40 82 2 8) (am_l3 pc 868 869 28)) (am_nd pc 870 (am_l4 pc 869 870 6 2) (am_nd pc 871 (am_l3 pc 870 871 6) (am_l4 pc 871 872 2 3)))))) (am_nd pc 885 (am_nd pc 878 (am_nd pc 874 (am_nd pc 873 (am_lz pc 872 873 1) (am_l3 pc 873 874 13)) (am_nd pc 875 (am_l3 pc 874 875 9) (am_l6 pc 875 878 40 210 2 9))) (am_nd pc 882 (am_nd pc 879 (am_l3 pc 878 879 28) (am_l4 pc 879 0 25 1662)) (am_nd pc 883 (am_l4 pc 882 883 6 1) (am_nd pc 884 (am_l3 pc 883 884 6) (am_l4 pc 884 885 2 3))))) (am_nd pc 891 (am_nd pc 887 (am_nd pc 886 (am_lz pc 885 886 1) (am_l3 pc 886 887 13)) (am_nd pc 888 (am_l3 pc 887 888 9) (am_l6 pc 888 891 40 83 2 8))) (am_nd pc 893 (am_nd pc 892 (am_l3 pc 891 892 28) (am_l4 pc 892 893 6 2)) (am_nd pc 894 (am_l3 pc 893 894 6) (am_nd pc 895 (am_l4 pc 894 895 2 3) (am_lz pc 895 896 1))))))) (am_nd pc 919 (am_nd pc 908 (am_nd pc 902 (am_nd pc 898 (am_nd pc 897 (am_l3 pc 896 897 13) (am_l3 pc 897 898 9)) (am_nd pc 901 (am_l6 pc 898 901 40 211 2 9) (am_l3 pc 901 902 28))) (am_nd pc 906 (am_nd pc 905 (am_l4 pc 902 0 25 1662) (am_l4 pc 905 906 6 1)) (am_nd pc 907 (am_l3 pc 906 907 6) (am_l4 pc 907 908 2 3)))) (am_nd pc 912 (am_nd pc 910 (am_nd pc 909 (am_lz pc 908 909 1) (am_l3 pc 909 910 13)) (am_nd pc 911 (am_l3 pc 910 911 9) (am_l3 pc 911 912 6))) (am_nd pc 914 (am_nd pc 913 (am_l4 pc 912 913 2 3) (am_lz pc 913 914 2)) (am_nd pc 915 (am_l3 pc 914 915 13) (am_nd pc 916 (am_l3 pc 915 916 9) (am_l6 pc 916 919 40 84 3 8)))))) (am_nd pc 928 (am_nd pc 923 (am_nd pc 921 (am_nd pc 920 (am_l3 pc 919 920 28) (am_l4 pc 920 921 6 2)) (am_nd pc 922 (am_l3 pc 921 922 6) (am_l4 pc 922 923 2 3))) (am_nd pc 925 (am_nd pc 924 (am_lz pc 923 924 1) (am_l3 pc 924 925 13)) (am_nd pc 926 (am_l3 pc 925 926 9) (am_nd pc 927 (am_l3 pc 926 927 6) (am_l4 pc 927 928 2 3))))) (am_nd pc 934 (am_nd pc 930 (am_nd pc 929 (am_lz pc 928 929 2) (am_l3 pc 929 930 13)) (am_nd pc 931 (am_l3 pc 930 931 9) (am_l6 pc 931 934 40 246 3 9))) (am_nd pc 938 (am_nd pc 935 (am_l3 pc 934 935 28) (am_l4 pc 935 0 25 1662)) (am_nd pc 939 (am_l4 pc 938 939 6 1) (am_nd pc 942 (am_l6 pc 939 942 40 85 1 8) (am_l3 pc 942 943 28))))))))))) (am_nd pc 1305 (am_nd pc 1130 (am_nd pc 1036 (am_nd pc 997 (am_nd pc 966 (am_nd pc 955 (am_nd pc 951 (am_nd pc 947 (am_nd pc 944 (am_l4 pc 943 944 6 2) (am_l6 pc 944 947 40 212 1 9)) (am_nd pc 948 (am_l3 pc 947 948 28) (am_l4 pc 948 0 25 1662))) (am_nd pc 953 (am_nd pc 952 (am_l4 pc 951 952 6 1) (am_l3 pc 952 953 6)) (am_nd pc 954 (am_l4 pc 953 954 2 3) (am_lz pc 954 955 1)))) (am_nd pc 961 (am_nd pc 957 (am_nd pc 956 (am_l3 pc 955 956 13) (am_l3 pc 956 957 9)) (am_nd pc 960 (am_l6 pc 957 960 40 86 2 8) (am_l3 pc 960 961 28))) (am_nd pc 963 (am_nd pc 962 (am_l4 pc 961 962 6 2) (am_l3 pc 962 963 6)) (am_nd pc 964 (am_l4 pc 963 964 2 3) (am_nd pc 965 (am_lz pc 964 965 1) (am_l3 pc 965 966 13)))))) (am_nd pc 980 (am_nd pc 974 (am_nd pc 970 (am_nd pc 967 (am_l3 pc 966 967 9) (am_l6 pc 967 970 40 244 2 9)) (am_nd pc 971 (am_l3 pc 970 971 28) (am_l4 pc 971 0 25 1662))) (am_nd pc 978 (am_nd pc 975 (am_l4 pc 974 975 6 1) (am_l6 pc 975 978 40 87 1 8)) (am_nd pc 979 (am_l3 pc 978 979 28) (am_l4 pc 979 980 6 2)))) (am_nd pc 988 (am_nd pc 984 (am_nd pc 983 (am_l6 pc 980 983 40 247 1 9) (am_l3 pc 983 984 28)) (am_nd pc 987 (am_l4 pc 984 0 25 1662) (am_l4 pc 987 988 6 1))) (am_nd pc 992 (am_nd pc 991 (am_l6 pc 988 991 40 88 1 8) (am_l3 pc 991 992 28)) (am_nd pc 993 (am_l4 pc 992 993 6 2) (am_nd pc 996 (am_l6 pc 993 996 40 248 1 9) (am_l3 pc 996 997 28))))))) (am_nd pc 1016 (am_nd pc 1007 (am_nd pc 1003 (am_nd pc 1001 (am_nd pc 1000 (am_l4 pc 997 0 25 1662) (am_l4 pc 1000 1001 6 1)) (am_nd pc 1002 (am_l3 pc 1001 1002 6) (am_l4 pc 1002 1003 2 3))) (am_nd pc 1005 (am_nd pc 1004 (am_lz pc 1003 1004 1) (am_l3 pc 1004 1005 13)) (am_nd pc 1006 (am_l3 pc 1005 1006 9) (am_l3 pc 1006 1007 6)))) (am_nd pc 1011 (am_nd pc 1009 (am_nd pc 1008 (am_l4 pc 1007 1008 2 3) (am_lz pc 1008 1009 2)) (am_nd pc 1010 (am_l3 pc 1009 1010 13) (am_l3 pc 1010 1011 9))) (am_nd pc 1013 (am_nd pc 1012 (am_l3 pc 1011 1012 6) (am_l4 pc 1012 1013 2 3)) (am_nd pc 1014 (am_lz pc 1013 1014 3) (am_nd pc 1015 (am_l3 pc 1014 1015 13) (am_l3 pc 1015 1016 9)))))) (am_nd pc 1027 (am_nd pc 1020 (am_nd pc 1018 (am_nd pc 1017 (am_l3 pc 1016 1017 6) (am_l4 pc 1017 1018 2 3)) (am_nd pc 1019 (am_lz pc 1018 1019 4) (am_l3 pc 1019 1020 13))) (am_nd pc 1024 (am_nd pc 1021 (am_l3 pc 1020 1021 9) (am_l6 pc 1021 1024 40 89 5 8)) (am_nd pc 1025 (am_l4 pc 1024 1025 6 2) (am_nd pc 1026 (am_l3 pc 1025 1026 6) (am_l4 pc 1026 1027 2 3))))) (am_nd pc 1031 (am_nd pc 1029 (am_nd pc 1028 (am_lz pc 1027 1028 1) (am_l3 pc 1028 1029 13)) (am_nd pc 1030 (am_l3 pc 1029 1030 9) (am_l3 pc 1030 1031 6))) (am_nd pc 1033 (am_nd pc 1032 (am_l4 pc 1031 1032 2 3) (am_lz pc 1032 1033 2)) (am_nd pc 1034 (am_l3 pc 1033 1034 13) (am_nd pc 1035 (am_l3 pc 1034 1035 9) (am_l3 pc 1035 1036 6)))))))) (am_nd pc 1085 (am_nd pc 1059 (am_nd pc 1044 (am_nd pc 1040 (am_nd pc 1038 (am_nd pc 1037 (am_l4 pc 1036 1037 2 3) (am_lz pc 1037 1038 3)) (am_nd pc 1039 (am_l3 pc 1038 1039 13) (am_l3 pc 1039 1040 9))) (am_nd pc 1042 (am_nd pc 1041 (am_l3 pc 1040 1041 6) (am_l4 pc 1041 1042 2 3)) (am_nd pc 1043 (am_lz pc 1042 1043 4) (am_l3 pc 1043 1044 13)))) (am_nd pc 1052 (am_nd pc 1048 (am_nd pc 1045 (am_l3 pc 1044 1045 9) (am_l6 pc 1045 1048 40 249 5 9)) (am_nd pc 1051 (am_l4 pc 1048 1051 27 1662) (am_lz pc 1051 1052 0))) (am_nd pc 1054 (am_nd pc 1053 (am_l6 pc 1052 0 43 0 0 1) (am_l4 pc 1053 1054 6 1)) (am_nd pc 1057 (am_l6 pc 1054 1057 40 90 1 8) (am_nd pc 1058 (am_l3 pc 1057 1058 28) (am_l4 pc 1058 1059 6 2)))))) (am_nd pc 1072 (am_nd pc 1067 (am_nd pc 1063 (am_nd pc 1062 (am_l6 pc 1059 1062 40 180 1 9) (am_l3 pc 1062 1063 28)) (am_nd pc 1066 (am_l4 pc 1063 0 25 1662) (am_l4 pc 1066 1067 6 1))) (am_nd pc 1069 (am_nd pc 1068 (am_l3 pc 1067 1068 6) (am_l4 pc 1068 1069 2 3)) (am_nd pc 1070 (am_lz pc 1069 1070 1) (am_nd pc 1071 (am_l3 pc 1070 1071 13) (am_l3 pc 1071 1072 9))))) (am_nd pc 1078 (am_nd pc 1076 (am_nd pc 1075 (am_l6 pc 1072 1075 40 91 2 8) (am_l3 pc 1075 1076 28)) (am_nd pc 1077 (am_l4 pc 1076 1077 6 2) (am_l3 pc 1077 1078 6))) (am_nd pc 1080 (am_nd pc 1079 (am_l4 pc 1078 1079 2 3) (am_lz pc 1079 1080 1)) (am_nd pc 1081 (am_l3 pc 1080 1081 13) (am_nd pc 1082 (am_l3 pc 1081 1082 9) (am_l6 pc 1082 1085 40 213 2 9))))))) (am_nd pc 1110 (am_nd pc 1099 (am_nd pc 1093 (am_nd pc 1089 (am_nd pc 1086 (am_l3 pc 1085 1086 28) (am_l4 pc 1086 0 25 1662)) (am_nd pc 1090 (am_l4 pc 1089 1090 6 1) (am_l6 pc 1090 1093 40 92 1 8))) (am_nd pc 1095 (am_nd pc 1094 (am_l3 pc 1093 1094 28) (am_l4 pc 1094 1095 6 2)) (am_nd pc 1098 (am_l6 pc 1095 1098 40 214 1 9) (am_l3 pc 1098 1099 28)))) (am_nd pc 1105 (am_nd pc 1103 (am_nd pc 1102 (am_l4 pc 1099 0 25 1662) (am_l4 pc 1102 1103 6 1)) (am_nd pc 1104 (am_l3 pc 1103 1104 6) (am_l4 pc 1104 1105 2 3))) (am_nd pc 1107 (am_nd pc 1106 (am_lz pc 1105 1106 1) (am_l3 pc 1106 1107 13)) (am_nd pc 1108 (am_l3 pc 1107 1108 9) (am_nd pc 1109 (am_l3 pc 1108 1109 6) (am_l4 pc 1109 1110 2 3)))))) (am_nd pc 1121 (am_nd pc 1114 (am_nd pc 1112 (am_nd pc 1111 (am_lz pc 1110 1111 2) (am_l3 pc 1111 1112 13)) (am_nd pc 1113 (am_l3 pc 1112 1113 9) (am_l3 pc 1113 1114 6))) (am_nd pc 1116 (am_nd pc 1115 (am_l4 pc 1114 1115 2 3) (am_lz pc 1115 1116 3)) (am_nd pc 1117 (am_l3 pc 1116 1117 13) (am_nd pc 1118 (am_l3 pc 1117 1118 9) (am_l6 pc 1118 1121 40 93 4 8))))) (am_nd pc 1125 (am_nd pc 1123 (am_nd pc 1122 (am_l3 pc 1121 1122 28) (am_l4 pc 1122 1123 6 2)) (am_nd pc 1124 (am_l3 pc 1123 1124 6) (am_l4 pc 1124 1125 2 3))) (am_nd pc 1127 (am_nd pc 1126 (am_lz pc 1125 1126 1) (am_l3 pc 1126 1127 13)) (am_nd pc 1128 (am_l3 pc 1127 1128 9) (am_nd pc 1129 (am_l3 pc 1128 1129 6) (am_l4 pc 1129 1130 2 3))))))))) (am_nd pc 1211 (am_nd pc 1170 (am_nd pc 1151 (am_nd pc 1138 (am_nd pc 1134 (am_nd pc 1132 (am_nd pc 1131 (am_lz pc 1130 1131 2) (am_l3 pc 1131 1132 13)) (am_nd pc 1133 (am_l3 pc 1132 1133 9) (am_l3 pc 1133 1134 6))) (am_nd pc 1136 (am_nd pc 1135 (am_l4 pc 1134 1135 2 3) (am_lz pc 1135 1136 3)) (am_nd pc 1137 (am_l3 pc 1136 1137 13) (am_l3 pc 1137 1138 9)))) (am_nd pc 1146 (am_nd pc 1142 (am_nd pc 1141 (am_l6 pc 1138 1141 40 216 4 9) (am_l3 pc 1141 1142 28)) (am_nd pc 1145 (am_l4 pc 1142 0 25 1662) (am_l4 pc 1145 1146 6 1))) (am_nd pc 1148 (am_nd pc 1147 (am_l3 pc 1146 1147 6) (am_l4 pc 1147 1148 2 3)) (am_nd pc 1149 (am_lz pc 1148 1149 1) (am_nd pc 1150 (am_l3 pc 1149 1150 13) (am_l3 pc 1150 1151 9)))))) (am_nd pc 1161 (am_nd pc 1155 (am_nd pc 1153 (am_nd pc 1152 (am_l3 pc 1151 1152 6) (am_l4 pc 1152 1153 2 3)) (am_nd pc 1154 (am_lz pc 1153 1154 2) (am_l3 pc 1154 1155 13))) (am_nd pc 1159 (am_nd pc 1156 (am_l3 pc 1155 1156 9) (am_l6 pc 1156 1159 40 94 3 8)) (am_nd pc 1160 (am_l3 pc 1159 1160 28) (am_l4 pc 1160 1161 6 2)))) (am_nd pc 1165 (am_nd pc 1163 (am_nd pc 1162 (am_l3 pc 1161 1162 6) (am_l4 pc 1162 1163 2 3)) (am_nd pc 1164 (am_lz pc 1163 1164 1) (am_l3 pc 1164 1165 13))) (am_nd pc 1167 (am_nd pc 1166 (am_l3 pc 1165 1166 9) (am_l3 pc 1166 1167 6)) (am_nd pc 1168 (am_l4 pc 1167 1168 2 3) (am_nd pc 1169 (am_lz pc 1168 1169 2) (am_l3 pc 1169 1170 13))))))) (am_nd pc 1191 (am_nd pc 1182 (am_nd pc 1178 (am_nd pc 1174 (am_nd pc 1171 (am_l3 pc 1170 1171 9) (am_l6 pc 1171 1174 40 217 3 9)) (am_nd pc 1175 (am_l3 pc 1174 1175 28) (am_l4 pc 1175 0 25 1662))) (am_nd pc 1180 (am_nd pc 1179 (am_l4 pc 1178 1179 6 1) (am_l3 pc 1179 1180 6)) (am_nd pc 1181 (am_l4 pc 1180 1181 2 3) (am_lz pc 1181 1182 1)))) (am_nd pc 1186 (am_nd pc 1184 (am_nd pc 1183 (am_l3 pc 1182 1183 13) (am_l3 pc 1183 1184 9)) (am_nd pc 1185 (am_l3 pc 1184 1185 6) (am_l4 pc 1185 1186 2 3))) (am_nd pc 1188 (am_nd pc 1187 (am_lz pc 1186 1187 2) (am_l3 pc 1187 1188 13)) (am_nd pc 1189 (am_l3 pc 1188 1189 9) (am_nd pc 1190 (am_l3 pc 1189 1190 6) (am_l4 pc 1190 1191 2 3)))))) (am_nd pc 1202 (am_nd pc 1197 (am_nd pc 1193 (am_nd pc 1192 (am_lz pc 1191 1192 3) (am_l3 pc 1192 1193 13)) (am_nd pc 1194 (am_l3 pc 1193 1194 9) (am_l6 pc 1194 1197 40 95 4 8))) (am_nd pc 1199 (am_nd pc 1198 (am_l3 pc 1197 1198 29) (am_l4 pc 1198 1199 6 2)) (am_nd pc 1200 (am_l3 pc 1199 1200 6) (am_nd pc 1201 (am_l4 pc 1200 1201 2 3) (am_lz pc 1201 1202 1))))) (am_nd pc 1206 (am_nd pc 1204 (am_nd pc 1203 (am_l3 pc 1202 1203 13) (am_l3 pc 1203 1204 9)) (am_nd pc 1205 (am_l3 pc 1204 1205 6) (am_l4 pc 1205 1206 2 3))) (am_nd pc 1208 (am_nd pc 1207 (am_lz pc 1206 1207 2) (am_l3 pc 1207 1208 13)) (am_nd pc 1209 (am_l3 pc 1208 1209 9) (am_nd pc 1210 (am_l3 pc 1209 1210 6) (am_l4 pc 1210 1211 2 3)))))))) (am_nd pc 1258 (am_nd pc 1234 (am_nd pc 1223 (am_nd pc 1217 (am_nd pc 1213 (am_nd pc 1212 (am_lz pc 1211 1212 3) (am_l3 pc 1212 1213 13)) (am_nd pc 1214 (am_l3 pc 1213 1214 9) (am_l6 pc 1214 1217 40 220 4 9))) (am_nd pc 1221 (am_nd pc 1218 (am_l3 pc 1217 1218 29) (am_l4 pc 1218 0 25 1662)) (am_nd pc 1222 (am_l4 pc 1221 1222 6 1) (am_l3 pc 1222 1223 6)))) (am_nd pc 1227 (am_nd pc 1225 (am_nd pc 1224 (am_l4 pc 1223 1224 2 3) (am_lz pc 1224 1225 1)) (am_nd pc 1226 (am_l3 pc 1225 1226 13) (am_l3 pc 1226 1227 9))) (am_nd pc 1231 (am_nd pc 1230 (am_l6 pc 1227 1230 40 96 2 8) (am_l3 pc 1230 1231 28)) (am_nd pc 1232 (am_l4 pc 1231 1232 6 2) (am_nd pc 1233 (am_l3 pc 1232 1233 6) (am_l4 pc 1233 1234 2 3)))))) (am_nd pc 1247 (am_nd pc 1240 (am_nd pc 1236 (am_nd pc 1235 (am_lz pc 1234 1235 1) (am_l3 pc 1235 1236 13)) (am_nd pc 1237 (am_l3 pc 1236 1237 9) (am_l6 pc 1237 1240 40 221 2 9))) (am_nd pc 1244 (am_nd pc 1241 (am_l3 pc 1240 1241 28) (am_l4 pc 1241 0 25 1662)) (am_nd pc 1245 (am_l4 pc 1244 1245 6 1) (am_nd pc 1246 (am_l3 pc 1245 1246 6) (am_l4 pc 1246 1247 2 3))))) (am_nd pc 1251 (am_nd pc 1249 (am_nd pc 1248 (am_lz pc 1247 1248 1) (am_l3 pc 1248 1249 13)) (am_nd pc 1250 (am_l3 pc 1249 1250 9) (am_l3 pc 1250 1251 6))) (am_nd pc 1253 (am_nd pc 1252 (am_l4 pc 1251 1252 2 3) (am_lz pc 1252 1253 2)) (am_nd pc 1254 (am_l3 pc 1253 1254 13) (am_nd pc 1255 (am_l3 pc 1254 1255 9) (am_l6 pc 1255 1258 40 97 3 8))))))) (am_nd pc 1281 (am_nd pc 1266 (am_nd pc 1262 (am_nd pc 1260 (am_nd pc 1259 (am_l3 pc 1258 1259 29) (am_l4 pc 1259 1260 6 2)) (am_nd pc 1261 (am_l3 pc 1260 1261 6) (am_l4 pc 1261 1262 2 3))) (am_nd pc 1264 (am_nd pc 1263 (am_lz pc 1262 1263 1) (am_l3 pc 1263 1264 13)) (am_nd pc 1265 (am_l3 pc 1264 1265 9) (am_l3 pc 1265 1266 6)))) (am_nd pc 1270 (am_nd pc 1268 (am_nd pc 1267 (am_l4 pc 1266 1267 2 3) (am_lz pc 1267 1268 2)) (am_nd pc 1269 (am_l3 pc 1268 1269 13) (am_l3 pc 1269 1270 9))) (am_nd pc 1274 (am_nd pc 1273 (am_l6 pc 1270 1273 40 223 3 9) (am_l3 pc 1273 1274 29)) (am_nd pc 1277 (am_l4 pc 1274 0 25 1662) (am_nd pc 1278 (am_l4 pc 1277 1278 6 1) (am_l6 pc 1278 1281 40 98 1 8)))))) (am_nd pc 1294 (am_nd pc 1287 (am_nd pc 1283 (am_nd pc 1282 (am_l3 pc 1281 1282 28) (am_l4 pc 1282 1283 6 2)) (am_nd pc 1286 (am_l6 pc 1283 1286 40 224 1 9) (am_l3 pc 1286 1287 28))) (am_nd pc 1291 (am_nd pc 1290 (am_l4 pc 1287 0 25 1662) (am_l4 pc 1290 1291 6 1)) (am_nd pc 1292 (am_l3 pc 1291 1292 6) (am_nd pc 1293 (am_l4 pc 1292 1293 2 3) (am_lz pc 1293 1294 1))))) (am_nd pc 1298 (am_nd pc 1296 (am_nd pc 1295 (am_l3 pc 1294 1295 13) (am_l3 pc 1295 1296 9)) (am_nd pc 1297 (am_l3 pc 1296 1297 6) (am_l4 pc 1297 1298 2 3))) (am_nd pc 1300 (am_nd pc 1299 (am_lz pc 1298 1299 2) (am_l3 pc 1299 1300 13)) (am_nd pc 1301 (am_l3 pc 1300 1301 9) (am_nd pc 1304 (am_l6 pc 1301 1304 40 99 3 8) (am_l3 pc 1304 1305 28)))))))))) (am_nd pc 1480 (am_nd pc 1390 (am_nd pc 1343 (am_nd pc 1326 (am_nd pc 1313 (am_nd pc 1309 (am_nd pc 1307 (am_nd pc 1306 (am_l4 pc 1305 1306 6 2) (am_l3 pc 1306 1307 6)) (am_nd pc 1308 (am_l4 pc 1307 1308 2 3) (am_lz pc 1308 1309 1))) (am_nd pc 1311 (am_nd pc 1310 (am_l3 pc 1309 1310 13) (am_l3 pc 1310 1311 9)) (am_nd pc 1312 (am_l3 pc 1311 1312 6) (am_l4 pc 1312 1313 2 3)))) (am_nd pc 1319 (am_nd pc 1315 (am_nd pc 1314 (am_lz pc 1313 1314 2) (am_l3 pc 1314 1315 13)) (am_nd pc 1316 (am_l3 pc 1315 1316 9) (am_l6 pc 1316 1319 40 226 3 9))) (am_nd pc 1323 (am_nd pc 1320 (am_l3 pc 1319 1320 28) (am_l4 pc 1320 0 25 1662)) (am_nd pc 1324 (am_l4 pc 1323 1324 6 1) (am_nd pc 1325 (am_l3 pc 1324 1325 6) (am_l4 pc 1325 1326 2 3)))))) (am_nd pc 1334 (am_nd pc 1330 (am_nd pc 1328 (am_nd pc 1327 (am_lz pc 1326 1327 1) (am_l3 pc 1327 1328 13)) (am_nd pc 1329 (am_l3 pc 1328 1329 9) (am_l3 pc 1329 1330 6))) (am_nd pc 1332 (am_nd pc 1331 (am_l4 pc 1330 1331 2 3) (am_lz pc 1331 1332 2)) (am_nd pc 1333 (am_l3 pc 1332 1333 13) (am_l3 pc 1333 1334 9)))) (am_nd pc 1338 (am_nd pc 1336 (am_nd pc 1335 (am_l3 pc 1334 1335 6) (am_l4 pc 1335 1336 2 3)) (am_nd pc 1337 (am_lz pc 1336 1337 3) (am_l3 pc 1337 1338 13))) (am_nd pc 1340 (am_nd pc 1339 (am_l3 pc 1338 1339 9) (am_l3 pc 1339 1340 6)) (am_nd pc 1341 (am_l4 pc 1340 1341 2 3) (am_nd pc 1342 (am_lz pc 1341 1342 4) (am_l3 pc 1342 1343 13))))))) (am_nd pc 1362 (am_nd pc 1353 (am_nd pc 1349 (am_nd pc 1347 (am_nd pc 1344 (am_l3 pc 1343 1344 9) (am_l6 pc 1344 1347 40 100 5 8)) (am_nd pc 1348 (am_l3 pc 1347 1348 28) (am_l4 pc 1348 1349 6 2))) (am_nd pc 1351 (am_nd pc 1350 (am_l3 pc 1349 1350 6) (am_l4 pc 1350 1351 2 3)) (am_nd pc 1352 (am_lz pc 1351 1352 1) (am_l3 pc 1352 1353 13)))) (am_nd pc 1357 (am_nd pc 1355 (am_nd pc 1354 (am_l3 pc 1353 1354 9) (am_l3 pc 1354 1355 6)) (am_nd pc 1356 (am_l4 pc 1355 1356 2 3) (am_lz pc 1356 1357 2))) (am_nd pc 1359 (am_nd pc 1358 (am_l3 pc 1357 1358 13) (am_l3 pc 1358 1359 9)) (am_nd pc 1360 (am_l3 pc 1359 1360 6) (am_nd pc 1361 (am_l4 pc 1360 1361 2 3) (am_lz pc 1361 1362 3)))))) (am_nd pc 1373 (am_nd pc 1366 (am_nd pc 1364 (am_nd pc 1363 (am_l3 pc 1362 1363 13) (am_l3 pc 1363 1364 9)) (am_nd pc 1365 (am_l3 pc 1364 1365 6) (am_l4 pc 1365 1366 2 3))) (am_nd pc 1368 (am_nd pc 1367 (am_lz pc 1366 1367 4) (am_l3 pc 1367 1368 13)) (am_nd pc 1369 (am_l3 pc 1368 1369 9) (am_nd pc 1372 (am_l6 pc 1369 1372 40 228 5 9) (am_l3 pc 1372 1373 28))))) (am_nd pc 1381 (am_nd pc 1377 (am_nd pc 1376 (am_l4 pc 1373 0 25 1662) (am_l4 pc 1376 1377 6 1)) (am_nd pc 1380 (am_l6 pc 1377 1380 40 101 1 8) (am_l3 pc 1380 1381 28))) (am_nd pc 1385 (am_nd pc 1382 (am_l4 pc 1381 1382 6 2) (am_l6 pc 1382 1385 40 231 1 9)) (am_nd pc 1386 (am_l3 pc 1385 1386 28) (am_nd pc 1389 (am_l4 pc 1386 0 25 1662) (am_l4 pc 1389 1390 6 1)))))))) (am_nd pc 1433 (am_nd pc 1413 (am_nd pc 1400 (am_nd pc 1394 (am_nd pc 1392 (am_nd pc 1391 (am_l3 pc 1390 1391 6) (am_l4 pc 1391 1392 2 3)) (am_nd pc 1393 (am_lz pc 1392 1393 1) (am_l3 pc 1393 1394 13))) (am_nd pc 1398 (am_nd pc 1395 (am_l3 pc 1394 1395 9) (am_l6 pc 1395 1398 40 102 2 8)) (am_nd pc 1399 (am_l3 pc 1398 1399 29) (am_l4 pc 1399 1400 6 2)))) (am_nd pc 1404 (am_nd pc 1402 (am_nd pc 1401 (am_l3 pc 1400 1401 6) (am_l4 pc 1401 1402 2 3)) (am_nd pc 1403 (am_lz pc 1402 1403 1) (am_l3 pc 1403 1404 13))) (am_nd pc 1408 (am_nd pc 1405 (am_l3 pc 1404 1405 9) (am_l6 pc 1405 1408 40 232 2 9)) (am_nd pc 1409 (am_l3 pc 1408 1409 29) (am_nd pc 1412 (am_l4 pc 1409 0 25 1662) (am_l4 pc 1412 1413 6 1)))))) (am_nd pc 1422 (am_nd pc 1417 (am_nd pc 1415 (am_nd pc 1414 (am_l3 pc 1413 1414 6) (am_l4 pc 1414 1415 2 3)) (am_nd pc 1416 (am_lz pc 1415 1416 1) (am_l3 pc 1416 1417 13))) (am_nd pc 1419 (am_nd pc 1418 (am_l3 pc 1417 1418 9) (am_l3 pc 1418 1419 6)) (am_nd pc 1420 (am_l4 pc 1419 1420 2 3) (am_nd pc 1421 (am_lz pc 1420 1421 2) (am_l3 pc 1421 1422 13))))) (am_nd pc 1428 (am_nd pc 1426 (am_nd pc 1423 (am_l3 pc 1422 1423 9) (am_l6 pc 1423 1426 40 103 3 8)) (am_nd pc 1427 (am_l3 pc 1426 1427 28) (am_l4 pc 1427 1428 6 2))) (am_nd pc 1430 (am_nd pc 1429 (am_l3 pc 1428 1429 6) (am_l4 pc 1429 1430 2 3)) (am_nd pc 1431 (am_lz pc 1430 1431 1) (am_nd pc 1432 (am_l3 pc 1431 1432 13) (am_l3 pc 1432 1433 9))))))) (am_nd pc 1460 (am_nd pc 1445 (am_nd pc 1437 (am_nd pc 1435 (am_nd pc 1434 (am_l3 pc 1433 1434 6) (am_l4 pc 1434 1435 2 3)) (am_nd pc 1436 (am_lz pc 1435 1436 2) (am_l3 pc 1436 1437 13))) (am_nd pc 1441 (am_nd pc 1438 (am_l3 pc 1437 1438 9) (am_l6 pc 1438 1441 40 233 3 9)) (am_nd pc 1442 (am_l3 pc 1441 1442 28) (am_l4 pc 1442 0 25 1662)))) (am_nd pc 1451 (am_nd pc 1449 (am_nd pc 1446 (am_l4 pc 1445 1446 6 1) (am_l6 pc 1446 1449 40 104 1 8)) (am_nd pc 1450 (am_l3 pc 1449 1450 28) (am_l4 pc 1450 1451 6 2))) (am_nd pc 1455 (am_nd pc 1454 (am_l6 pc 1451 1454 40 234 1 9) (am_l3 pc 1454 1455 28)) (am_nd pc 1458 (am_l4 pc 1455 0 25 1662) (am_nd pc 1459 (am_l4 pc 1458 1459 6 1) (am_l3 pc 1459 1460 6)))))) (am_nd pc 1469 (am_nd pc 1464 (am_nd pc 1462 (am_nd pc 1461 (am_l4 pc 1460 1461 2 3) (am_lz pc 1461 1462 1)) (am_nd pc 1463 (am_l3 pc 1462 1463 13) (am_l3 pc 1463 1464 9))) (am_nd pc 1466 (am_nd pc 1465 (am_l3 pc 1464 1465 6) (am_l4 pc 1465 1466 2 3)) (am_nd pc 1467 (am_lz pc 1466 1467 2) (am_nd pc 1468 (am_l3 pc 1467 1468 13) (am_l3 pc 1468 1469 9))))) (am_nd pc 1475 (am_nd pc 1473 (am_nd pc 1472 (am_l6 pc 1469 1472 40 105 3 8) (am_l3 pc 1472 1473 28)) (am_nd pc 1474 (am_l4 pc 1473 1474 6 2) (am_l3 pc 1474 1475 6))) (am_nd pc 1477 (am_nd pc 1476 (am_l4 pc 1475 1476 2 3) (am_lz pc 1476 1477 1)) (am_nd pc 1478 (am_l3 pc 1477 1478 13) (am_nd pc 1479 (am_l3 pc 1478 1479 9) (am_l3 pc 1479 1480 6))))))))) (am_nd pc 1564 (am_nd pc 1521 (am_nd pc 1501 (am_nd pc 1492 (am_nd pc 1484 (am_nd pc 1482 (am_nd pc 1481 (am_l4 pc 1480 1481 2 3) (am_lz pc 1481 1482 2)) (am_nd pc 1483 (am_l3 pc 1482 1483 13) (am_l3 pc 1483 1484 9))) (am_nd pc 1488 (am_nd pc 1487 (am_l6 pc 1484 1487 40 238 3 9) (am_l3 pc 1487 1488 28)) (am_nd pc 1491 (am_l4 pc 1488 0 25 1662) (am_l4 pc 1491 1492 6 1)))) (am_nd pc 1496 (am_nd pc 1494 (am_nd pc 1493 (am_l3 pc 1492 1493 6) (am_l4 pc 1493 1494 2 3)) (am_nd pc 1495 (am_lz pc 1494 1495 1) (am_l3 pc 1495 1496 13))) (am_nd pc 1498 (am_nd pc 1497 (am_l3 pc 1496 1497 9) (am_l3 pc 1497 1498 6)) (am_nd pc 1499 (am_l4 pc 1498 1499 2 3) (am_nd pc 1500 (am_lz pc 1499 1500 2) (am_l3 pc 1500 1501 13)))))) (am_nd pc 1510 (am_nd pc 1505 (am_nd pc 1503 (am_nd pc 1502 (am_l3 pc 1501 1502 9) (am_l3 pc 1502 1503 6)) (am_nd pc 1504 (am_l4 pc 1503 1504 2 3) (am_lz pc 1504 1505 3))) (am_nd pc 1507 (am_nd pc 1506 (am_l3 pc 1505 1506 13) (am_l3 pc 1506 1507 9)) (am_nd pc 1508 (am_l3 pc 1507 1508 6) (am_nd pc 1509 (am_l4 pc 1508 1509 2 3) (am_lz pc 1509 1510 4))))) (am_nd pc 1516 (am_nd pc 1512 (am_nd pc 1511 (am_l3 pc 1510 1511 13) (am_l3 pc 1511 1512 9)) (am_nd pc 1515 (am_l6 pc 1512 1515 40 106 5 8) (am_l3 pc 1515 1516 28))) (am_nd pc 1518 (am_nd pc 1517 (am_l4 pc 1516 1517 6 2) (am_l3 pc 1517 1518 6)) (am_nd pc 1519 (am_l4 pc 1518 1519 2 3) (am_nd pc 1520 (am_lz pc 1519 1520 1) (am_l3 pc 1520 1521 13))))))) (am_nd pc 1540 (am_nd pc 1529 (am_nd pc 1525 (am_nd pc 1523 (am_nd pc 1522 (am_l3 pc 1521 1522 9) (am_l3 pc 1522 1523 6)) (am_nd pc 1524 (am_l4 pc 1523 1524 2 3) (am_lz pc 1524 1525 2))) (am_nd pc 1527 (am_nd pc 1526 (am_l3 pc 1525 1526 13) (am_l3 pc 1526 1527 9)) (am_nd pc 1528 (am_l3 pc 1527 1528 6) (am_l4 pc 1528 1529 2 3)))) (am_nd pc 1533 (am_nd pc 1531 (am_nd pc 1530 (am_lz pc 1529 1530 3) (am_l3 pc 1530 1531 13)) (am_nd pc 1532 (am_l3 pc 1531 1532 9) (am_l3 pc 1532 1533 6))) (am_nd pc 1535 (am_nd pc 1534 (am_l4 pc 1533 1534 2 3) (am_lz pc 1534 1535 4)) (am_nd pc 1536 (am_l3 pc 1535 1536 13) (am_nd pc 1537 (am_l3 pc 1536 1537 9) (am_l6 pc 1537 1540 40 239 5 9)))))) (am_nd pc 1553 (am_nd pc 1546 (am_nd pc 1544 (am_nd pc 1541 (am_l3 pc 1540 1541 28) (am_l4 pc 1541 0 25 1662)) (am_nd pc 1545 (am_l4 pc 1544 1545 6 1) (am_l3 pc 1545 1546 6))) (am_nd pc 1548 (am_nd pc 1547 (am_l4 pc 1546 1547 2 3) (am_lz pc 1547 1548 1)) (am_nd pc 1549 (am_l3 pc 1548 1549 13) (am_nd pc 1550 (am_l3 pc 1549 1550 9) (am_l6 pc 1550 1553 40 107 2 8))))) (am_nd pc 1557 (am_nd pc 1555 (am_nd pc 1554 (am_l3 pc 1553 1554 28) (am_l4 pc 1554 1555 6 2)) (am_nd pc 1556 (am_l3 pc 1555 1556 6) (am_l4 pc 1556 1557 2 3))) (am_nd pc 1559 (am_nd pc 1558 (am_lz pc 1557 1558 1) (am_l3 pc 1558 1559 13)) (am_nd pc 1560 (am_l3 pc 1559 1560 9) (am_nd pc 1563 (am_l6 pc 1560 1563 40 240 2 9) (am_l3 pc 1563 1564 28)))))))) (am_nd pc 1613 (am_nd pc 1585 (am_nd pc 1574 (am_nd pc 1570 (am_nd pc 1568 (am_nd pc 1567 (am_l4 pc 1564 0 25 1662) (am_l4 pc 1567 1568 6 1)) (am_nd pc 1569 (am_l3 pc 1568 1569 6) (am_l4 pc 1569 1570 2 3))) (am_nd pc 1572 (am_nd pc 1571 (am_lz pc 1570 1571 1) (am_l3 pc 1571 1572 13)) (am_nd pc 1573 (am_l3 pc 1572 1573 9) (am_l3 pc 1573 1574 6)))) (am_nd pc 1578 (am_nd pc 1576 (am_nd pc 1575 (am_l4 pc 1574 1575 2 3) (am_lz pc 1575 1576 2)) (am_nd pc 1577 (am_l3 pc 1576 1577 13) (am_l3 pc 1577 1578 9))) (am_nd pc 1582 (am_nd pc 1581 (am_l6 pc 1578 1581 40 108 3 8) (am_l3 pc 1581 1582 28)) (am_nd pc 1583 (am_l4 pc 1582 1583 6 2) (am_nd pc 1584 (am_l3 pc 1583 1584 6) (am_l4 pc 1584 1585 2 3)))))) (am_nd pc 1596 (am_nd pc 1589 (am_nd pc 1587 (am_nd pc 1586 (am_lz pc 1585 1586 1) (am_l3 pc 1586 1587 13)) (am_nd pc 1588 (am_l3 pc 1587 1588 9) (am_l3 pc 1588 1589 6))) (am_nd pc 1591 (am_nd pc 1590 (am_l4 pc 1589 1590 2 3) (am_lz pc 1590 1591 2)) (am_nd pc 1592 (am_l3 pc 1591 1592 13) (am_nd pc 1593 (am_l3 pc 1592 1593 9) (am_l6 pc 1593 1596 40 243 3 9))))) (am_nd pc 1604 (am_nd pc 1600 (am_nd pc 1597 (am_l3 pc 1596 1597 28) (am_l4 pc 1597 0 25 1662)) (am_nd pc 1601 (am_l4 pc 1600 1601 6 1) (am_l6 pc 1601 1604 40 109 1 8))) (am_nd pc 1606 (am_nd pc 1605 (am_l3 pc 1604 1605 28) (am_l4 pc 1605 1606 6 2)) (am_nd pc 1609 (am_l6 pc 1606 1609 40 241 1 9) (am_nd pc 1610 (am_l3 pc 1609 1610 28) (am_l4 pc 1610 0 25 1662))))))) (am_nd pc 1642 (am_nd pc 1627 (am_nd pc 1619 (am_nd pc 1617 (am_nd pc 1614 (am_l4 pc 1613 1614 6 1) (am_l6 pc 1614 1617 40 110 1 8)) (am_nd pc 1618 (am_l3 pc 1617 1618 28) (am_l4 pc 1618 1619 6 2))) (am_nd pc 1623 (am_nd pc 1622 (am_l6 pc 1619 1622 40 160 1 9) (am_l3 pc 1622 1623 28)) (am_nd pc 1626 (am_l4 pc 1623 0 25 1662) (am_l4 pc 1626 1627 6 1)))) (am_nd pc 1635 (am_nd pc 1631 (am_nd pc 1630 (am_l6 pc 1627 1630 40 111 1 8) (am_l3 pc 1630 1631 28)) (am_nd pc 1632 (am_l4 pc 1631 1632 6 2) (am_l6 pc 1632 1635 40 161 1 9))) (am_nd pc 1639 (am_nd pc 1636 (am_l3 pc 1635 1636 28) (am_l4 pc 1636 0 25 1662)) (am_nd pc 1640 (am_l4 pc 1639 1640 6 1) (am_nd pc 1641 (am_l3 pc 1640 1641 6) (am_l4 pc 1641 1642 2 3)))))) (am_nd pc 1653 (am_nd pc 1648 (am_nd pc 1644 (am_nd pc 1643 (am_lz pc 1642 1643 1) (am_l3 pc 1643 1644 13)) (am_nd pc 1645 (am_l3 pc 1644 1645 9) (am_l6 pc 1645 1648 40 112 2 8))) (am_nd pc 1650 (am_nd pc 1649 (am_l3 pc 1648 1649 28) (am_l4 pc 1649 1650 6 2)) (am_nd pc 1651 (am_l3 pc 1650 1651 6) (am_nd pc 1652 (am_l4 pc 1651 1652 2 3) (am_lz pc 1652 1653 1))))) (am_nd pc 1659 (am_nd pc 1655 (am_nd pc 1654 (am_l3 pc 1653 1654 13) (am_l3 pc 1654 1655 9)) (am_nd pc 1658 (am_l6 pc 1655 1658 40 250 2 9) (am_l3 pc 1658 1659 28))) (am_nd pc 1665 (am_nd pc 1662 (am_l4 pc 1659 0 25 1662) (am_lg pc 1662 (1665, 24, 3, 0, 0, 5, []))) (am_nd pc 1668 (am_l4 pc 1665 0 25 18) (am_nd pc 1669 (am_lz pc 1668 1669 1) (am_l6 pc 1669 0 43 0 0 1)))))))))))
noncomputable def am_kL_law : Nat → am_I := fun pc => bif Nat.blt pc 1670 then am_tL_law pc else am_bad
set_option maxRecDepth 20000 in
theorem am_oL_law : am_ok 0 am_kL_law := am_ok_ofF (N := 1670) (cd' := am_tL_law) (by decide +kernel)
/-! the law: what is claimed of a case -/
def lx_Q : Option am_V → am_N → Prop := fun r _ => r = some (.inl 1)
/-- canonical numbers -/
def lx_X (xs : Nat → Int) : Prop := ∀ j, -2147483648 ≤ xs j ∧ xs j ≤ 2147483647
/-- to the end of a case -/
def lx_H (l : Launch) (L : Nat) (xs : Nat → Int) (i : Int) : Prop := ∀ μ : am_N, lx_I μ → am_AW l L xs 0 lx_Q 1662 [some (.inr (.inr 999)), some (.inr (.inr 0)), some (.inr (.inr 83)), some (.inl i)] [] μ
/-! the law: cases -/
theorem lx_ixT {L : Nat} {i : Int} (hL : L ≤ 2560) (i0 : 0 ≤ i) (i1 : i ≤ (L : Int) - 5) : ∀ k : Int, 0 ≤ k → k ≤ 4 → 0 ≤ am_c (i + k) ∧ am_c (i + k) < L := fun k h0 h1 => by rw [am_cR (by omega) (by omega)]; omega
theorem lx_cxT {xs : Nat → Int} (hX : lx_X xs) : ∀ j, am_c (xs j) = xs j := fun j => am_cR (by have := (hX j).1; omega) (by have := (hX j).2; omega)
theorem lx_n14T {μ : am_N} (h : sx μ μ) : 0 ≤ μ 1 4 ∧ μ 1 4 ≤ 4 := by
  have hb := sx_all h
  omega
theorem lx_c0 {l : Launch} {L : Nat} {xs : Nat → Int} {i : Int} (hX : lx_X xs) (hL : L ≤ 2560) (i0 : 0 ≤ i) (i1 : i ≤ (L : Int) - 5) (hH : lx_H l L xs i) (μ : am_N) (hI : lx_I μ) : am_AW l L xs 0 lx_Q 256 [some (.inr (.inr 999)), some (.inr (.inr 0)), some (.inr (.inr 83)), some (.inl i)] [] μ := by
  have iL : (L : Int) ≤ 2560 := by omega
  have ix : ∀ k : Int, 0 ≤ k → k ≤ 4 → 0 ≤ am_c (i + k) ∧ am_c (i + k) < L := lx_ixT hL i0 i1
  have cx : ∀ j, am_c (xs j) = xs j := lx_cxT hX
  have hb := sx_all hI.1
  have hc := mi_all hI.2.1
  have hR := hI.2.2
  have hwM := hR.1.2
  have hwC : fp_fw 999 (fv μ 1) := by rw [hR.1.1]; exact hwM
  have n14 : 0 ≤ μ 1 4 ∧ μ 1 4 ≤ 4 := lx_n14T hI.1
  have nM : μ 1 4 = μ 83 14 := (fp_ct_n hR.1.1).1 4 (by decide)
  refine am_go (ct := fun pc => Nat.beq pc 1662) am_oL_law 60 ?_
  conv => whnf
  repeat' first
    | (refine (?_ : am_wp _ _ _ _ _ _ _ _ _ _ _ _); conv => whnf)
    | refine And.intro ⟨rfl, rfl⟩ ?_
    | refine And.intro (ix _ (by decide) (by decide)) ?_
    | refine And.intro trivial ?_
    | refine s_feedF _ (cx _) hI.1 (fun a1 a2 μ1 f1 e1 e2 => ?_) (fun r1 μ1 a0 f1 => ?_)
    | (have t21 : μ1 83 21 = μ 83 21 := f1 83 21 (by omega) (by omega); refine n_feedF _ (cx _) (by rw [t21]; omega) (by rw [t21]; omega) (fun b1 b2 μ2 f2 e3 e4 => ?_) (fun r2 μ2 b0 f2 => ?_))
    | (have t21 : μ1 83 21 = μ 83 21 := f1 83 21 (by omega); refine n_feedF _ (cx _) (by rw [t21]; omega) (by rw [t21]; omega) (fun b1 b2 μ2 f2 e3 e4 => ?_) (fun r2 μ2 b0 f2 => ?_))
    | (refine hH _ ?_; first | exact LI_feed hI a1 a2 f1 f2 e1 e2 e3 e4 | exact LI_ref hI f1 f2 | (exfalso; have h36 := hR.2.1.1; rw [t21] at *; omega))
  all_goals (first | exact LI_feed hI a1 a2 f1 f2 e1 e2 e3 e4 | exact LI_ref hI f1 f2 | (exfalso; have h36 := hR.2.1.1; rw [t21] at *; omega) | (trace_state; fail))
theorem lx_c1 {l : Launch} {L : Nat} {xs : Nat → Int} {i : Int} (hX : lx_X xs) (hL : L ≤ 2560) (i0 : 0 ≤ i) (i1 : i ≤ (L : Int) - 5) (hH : lx_H l L xs i) (μ : am_N) (hI : lx_I μ) : am_AW l L xs 0 lx_Q 279 [some (.inr (.inr 999)), some (.inr (.inr 0)), some (.inr (.inr 83)), some (.inl i)] [] μ := by
  have iL : (L : Int) ≤ 2560 := by omega
  have ix : ∀ k : Int, 0 ≤ k → k ≤ 4 → 0 ≤ am_c (i + k) ∧ am_c (i + k) < L := lx_ixT hL i0 i1
  have cx : ∀ j, am_c (xs j) = xs j := lx_cxT hX
  have hb := sx_all hI.1
  have hc := mi_all hI.2.1
  have hR := hI.2.2
  have hwM := hR.1.2
  have hwC : fp_fw 999 (fv μ 1) := by rw [hR.1.1]; exact hwM
  have n14 : 0 ≤ μ 1 4 ∧ μ 1 4 ≤ 4 := lx_n14T hI.1
  have nM : μ 1 4 = μ 83 14 := (fp_ct_n hR.1.1).1 4 (by decide)
  refine am_go (ct := fun pc => Nat.beq pc 1662) am_oL_law 60 ?_
  conv => whnf
  repeat' first
    | (refine (?_ : am_wp _ _ _ _ _ _ _ _ _ _ _ _); conv => whnf)
    | refine And.intro ⟨rfl, rfl⟩ ?_
    | refine And.intro (ix _ (by decide) (by decide)) ?_
    | refine And.intro trivial ?_
    | (refine s_lane hI.1 hwC hR.2.1.2.2 (fun r1 μ1 l1 f1 p43 b38 b8 b1 z36 e62 hw1 => ?_))
    | (have t21 : μ1 83 21 = μ 83 21 := f1 83 21 (by omega) (by omega) (by omega) (by omega); have m1 : mv μ1 = mv μ := mv_keep (fun a b q => f1 a b (by omega) (by omega) (by omega) (by omega)); have t94 : ∀ b, μ1 94 b = μ 94 b := (fun b => f1 94 b (by omega) (by omega) (by omega) (by omega)); refine x_mlane (μ1 94) (μ1 83 21) rfl rfl (by rw [t21]; omega) (by rw [t21]; omega) (fun x hx => by rw [t94, ← hR.2.1.2.1]; exact hR.2.1.2.2 x (by rw [t21] at hx; have := hR.2.1.1; omega)) (by rw [m1]; exact hwM) (fun p hp => by rw [f1 100 p (by omega) (by omega) (by omega) (by omega)]; exact mi_or hI.2.1 p hp) (fun r2 μ2 l2 f2 p100 z21 e33 => ?_); have hl := LI_lane hI l1 f1 p43 b38 b8 b1 z36 e62 hw1 l2 f2 p100 z21 e33)
    | (refine hH _ ?_; first | exact hl.1)
  all_goals (first | exact hl.1 | (trace_state; fail))
theorem lx_c2 {l : Launch} {L : Nat} {xs : Nat → Int} {i : Int} (hX : lx_X xs) (hL : L ≤ 2560) (i0 : 0 ≤ i) (i1 : i ≤ (L : Int) - 5) (hH : lx_H l L xs i) (μ : am_N) (hI : lx_I μ) : am_AW l L xs 0 lx_Q 292 [some (.inr (.inr 999)), some (.inr (.inr 0)), some (.inr (.inr 83)), some (.inl i)] [] μ := by
  have iL : (L : Int) ≤ 2560 := by omega
  have ix : ∀ k : Int, 0 ≤ k → k ≤ 4 → 0 ≤ am_c (i + k) ∧ am_c (i + k) < L := lx_ixT hL i0 i1
  have cx : ∀ j, am_c (xs j) = xs j := lx_cxT hX
  have hb := sx_all hI.1
  have hc := mi_all hI.2.1
  have hR := hI.2.2
  have hwM := hR.1.2
  have hwC : fp_fw 999 (fv μ 1) := by rw [hR.1.1]; exact hwM
  have n14 : 0 ≤ μ 1 4 ∧ μ 1 4 ≤ 4 := lx_n14T hI.1
  have nM : μ 1 4 = μ 83 14 := (fp_ct_n hR.1.1).1 4 (by decide)
  refine am_go (ct := fun pc => Nat.beq pc 1662) am_oL_law 60 ?_
  conv => whnf
  repeat' first
    | (refine (?_ : am_wp _ _ _ _ _ _ _ _ _ _ _ _); conv => whnf)
    | refine And.intro ⟨rfl, rfl⟩ ?_
    | refine And.intro (ix _ (by decide) (by decide)) ?_
    | refine And.intro trivial ?_
    | refine s_runner _ _ (cx _) (cx _) hwC (fun μ1 f1 => ?_)
    | (have m1 : mv μ1 = mv μ := mv_keep (fun a b q => f1 a b (by omega)); refine n_runner _ _ (cx _) (cx _) (by rw [m1]; exact hwM) (fun μ2 f2 => ?_))
    | (refine hH _ ?_; first | exact LI_ref hI f1 f2)
  all_goals (first | exact LI_ref hI f1 f2 | (trace_state; fail))
theorem lx_c3 {l : Launch} {L : Nat} {xs : Nat → Int} {i : Int} (hX : lx_X xs) (hL : L ≤ 2560) (i0 : 0 ≤ i) (i1 : i ≤ (L : Int) - 5) (hH : lx_H l L xs i) (μ : am_N) (hI : lx_I μ) : am_AW l L xs 0 lx_Q 325 [some (.inr (.inr 999)), some (.inr (.inr 0)), some (.inr (.inr 83)), some (.inl i)] [] μ := by
  have iL : (L : Int) ≤ 2560 := by omega
  have ix : ∀ k : Int, 0 ≤ k → k ≤ 4 → 0 ≤ am_c (i + k) ∧ am_c (i + k) < L := lx_ixT hL i0 i1
  have cx : ∀ j, am_c (xs j) = xs j := lx_cxT hX
  have hb := sx_all hI.1
  have hc := mi_all hI.2.1
  have hR := hI.2.2
  have hwM := hR.1.2
  have hwC : fp_fw 999 (fv μ 1) := by rw [hR.1.1]; exact hwM
  have n14 : 0 ≤ μ 1 4 ∧ μ 1 4 ≤ 4 := lx_n14T hI.1
  have nM : μ 1 4 = μ 83 14 := (fp_ct_n hR.1.1).1 4 (by decide)
  refine am_go (ct := fun pc => Nat.beq pc 1662) am_oL_law 60 ?_
  conv => whnf
  repeat' first
    | (refine (?_ : am_wp _ _ _ _ _ _ _ _ _ _ _ _); conv => whnf)
    | refine And.intro ⟨rfl, rfl⟩ ?_
    | refine And.intro (ix _ (by decide) (by decide)) ?_
    | refine And.intro trivial ?_
    | refine s_startF _ _ (cx _) (cx _) n14.1 n14.2 (fun a1 a2 μ1 f1 e1 z1 => ?_) (fun r1 μ1 a0 f1 => ?_)
    | (have m1 : mv μ1 = mv μ := mv_keep (fun a b q => f1 a b (by omega) (by omega)); have t14 : μ1 83 14 = μ 83 14 := f1 83 14 (by omega) (by omega); refine n_startF _ _ (cx _) (cx _) (by rw [t14]; omega) (by rw [t14]; omega) (fun b1 b2 μ2 f2 e2 z2 => ?_) (fun r2 μ2 b0 f2 => ?_))
    | (have m1 : mv μ1 = mv μ := mv_keep (fun a b q => f1 a b (by omega)); have t14 : μ1 83 14 = μ 83 14 := f1 83 14 (by omega); refine n_startF _ _ (cx _) (cx _) (by rw [t14]; omega) (by rw [t14]; omega) (fun b1 b2 μ2 f2 e2 z2 => ?_) (fun r2 μ2 b0 f2 => ?_))
    | (refine hH _ ?_; first | exact LI_fld hI f1 f2 z1 z2 (by rw [e1, e2, m1, hR.1.1]) (by rw [e2, m1]; exact fw_ct (fw_arr hwM (by decide) (fun _ => a2) (Or.inr (by decide)))) | exact LI_ref hI f1 f2 | (exfalso; rw [t14] at *; omega) | (exfalso; exact a0 ⟨b1, b2⟩) | (exfalso; exact b0 ⟨a1, a2⟩) | (exfalso; omega))
  all_goals (first | exact LI_fld hI f1 f2 z1 z2 (by rw [e1, e2, m1, hR.1.1]) (by rw [e2, m1]; exact fw_ct (fw_arr hwM (by decide) (fun _ => a2) (Or.inr (by decide)))) | exact LI_ref hI f1 f2 | (exfalso; rw [t14] at *; omega) | (exfalso; exact a0 ⟨b1, b2⟩) | (exfalso; exact b0 ⟨a1, a2⟩) | (exfalso; omega) | (trace_state; fail))
theorem lx_c4 {l : Launch} {L : Nat} {xs : Nat → Int} {i : Int} (hX : lx_X xs) (hL : L ≤ 2560) (i0 : 0 ≤ i) (i1 : i ≤ (L : Int) - 5) (hH : lx_H l L xs i) (μ : am_N) (hI : lx_I μ) : am_AW l L xs 0 lx_Q 358 [some (.inr (.inr 999)), some (.inr (.inr 0)), some (.inr (.inr 83)), some (.inl i)] [] μ := by
  have iL : (L : Int) ≤ 2560 := by omega
  have ix : ∀ k : Int, 0 ≤ k → k ≤ 4 → 0 ≤ am_c (i + k) ∧ am_c (i + k) < L := lx_ixT hL i0 i1
  have cx : ∀ j, am_c (xs j) = xs j := lx_cxT hX
  have hb := sx_all hI.1
  have hc := mi_all hI.2.1
  have hR := hI.2.2
  have hwM := hR.1.2
  have hwC : fp_fw 999 (fv μ 1) := by rw [hR.1.1]; exact hwM
  have n14 : 0 ≤ μ 1 4 ∧ μ 1 4 ≤ 4 := lx_n14T hI.1
  have nM : μ 1 4 = μ 83 14 := (fp_ct_n hR.1.1).1 4 (by decide)
  refine am_go (ct := fun pc => Nat.beq pc 1662) am_oL_law 60 ?_
  conv => whnf
  repeat' first
    | (refine (?_ : am_wp _ _ _ _ _ _ _ _ _ _ _ _); conv => whnf)
    | refine And.intro ⟨rfl, rfl⟩ ?_
    | refine And.intro (ix _ (by decide) (by decide)) ?_
    | refine And.intro trivial ?_
    | refine s_kindF _ _ _ (cx _) (cx _) (cx _) n14.1 n14.2 (fun a1 a2 a3 μ1 f1 e1 z1 => ?_) (fun r1 μ1 a0 f1 => ?_)
    | (have m1 : mv μ1 = mv μ := mv_keep (fun a b q => f1 a b (by omega) (by omega)); have t14 : μ1 83 14 = μ 83 14 := f1 83 14 (by omega) (by omega); refine n_kindF _ _ _ (cx _) (cx _) (cx _) (by rw [t14]; omega) (by rw [t14]; omega) (fun b1 b2 b3 μ2 f2 e2 z2 => ?_) (fun r2 μ2 b0 f2 => ?_))
    | (have m1 : mv μ1 = mv μ := mv_keep (fun a b q => f1 a b (by omega)); have t14 : μ1 83 14 = μ 83 14 := f1 83 14 (by omega); refine n_kindF _ _ _ (cx _) (cx _) (cx _) (by rw [t14]; omega) (by rw [t14]; omega) (fun b1 b2 b3 μ2 f2 e2 z2 => ?_) (fun r2 μ2 b0 f2 => ?_))
    | (refine hH _ ?_; first | exact LI_fld hI f1 f2 z1 z2 (by rw [e1, e2, m1, hR.1.1]) (by rw [e2, m1]; exact fw_ct (fw_kind hwM a2 a3)) | exact LI_ref hI f1 f2 | (exfalso; rw [t14] at *; omega) | (exfalso; exact a0 ⟨b1, b2⟩) | (exfalso; exact b0 ⟨a1, a2⟩) | (exfalso; omega))
  all_goals (first | exact LI_fld hI f1 f2 z1 z2 (by rw [e1, e2, m1, hR.1.1]) (by rw [e2, m1]; exact fw_ct (fw_kind hwM a2 a3)) | exact LI_ref hI f1 f2 | (exfalso; rw [t14] at *; omega) | (exfalso; exact a0 ⟨b1, b2⟩) | (exfalso; exact b0 ⟨a1, a2⟩) | (exfalso; omega) | (trace_state; fail))
theorem lx_c5 {l : Launch} {L : Nat} {xs : Nat → Int} {i : Int} (hX : lx_X xs) (hL : L ≤ 2560) (i0 : 0 ≤ i) (i1 : i ≤ (L : Int) - 5) (hH : lx_H l L xs i) (μ : am_N) (hI : lx_I μ) : am_AW l L xs 0 lx_Q 401 [some (.inr (.inr 999)), some (.inr (.inr 0)), some (.inr (.inr 83)), some (.inl i)] [] μ := by
  have iL : (L : Int) ≤ 2560 := by omega
  have ix : ∀ k : Int, 0 ≤ k → k ≤ 4 → 0 ≤ am_c (i + k) ∧ am_c (i + k) < L := lx_ixT hL i0 i1
  have cx : ∀ j, am_c (xs j) = xs j := lx_cxT hX
  have hb := sx_all hI.1
  have hc := mi_all hI.2.1
  have hR := hI.2.2
  have hwM := hR.1.2
  have hwC : fp_fw 999 (fv μ 1) := by rw [hR.1.1]; exact hwM
  have n14 : 0 ≤ μ 1 4 ∧ μ 1 4 ≤ 4 := lx_n14T hI.1
  have nM : μ 1 4 = μ 83 14 := (fp_ct_n hR.1.1).1 4 (by decide)
  refine am_go (ct := fun pc => Nat.beq pc 1662) am_oL_law 60 ?_
  conv => whnf
  repeat' first
    | (refine (?_ : am_wp _ _ _ _ _ _ _ _ _ _ _ _); conv => whnf)
    | refine And.intro ⟨rfl, rfl⟩ ?_
    | refine And.intro (ix _ (by decide) (by decide)) ?_
    | refine And.intro trivial ?_
    | refine s_setF _ _ (cx _) (cx _) (fun a1 a2 μ1 f1 e1 z1 => ?_) (fun a0 r1 μ1 f1 => ?_)
    | (have m1 : mv μ1 = mv μ := mv_keep (fun a b q => f1 a b (by omega) (by omega)); have t14 : μ1 83 14 = μ 83 14 := f1 83 14 (by omega) (by omega); refine n_setF _ _ (cx _) (cx _) (fun b1 b2 μ2 f2 e2 z2 => ?_) (fun b0 r2 μ2 f2 => ?_))
    | (have m1 : mv μ1 = mv μ := mv_keep (fun a b q => f1 a b (by omega)); have t14 : μ1 83 14 = μ 83 14 := f1 83 14 (by omega); refine n_setF _ _ (cx _) (cx _) (fun b1 b2 μ2 f2 e2 z2 => ?_) (fun b0 r2 μ2 f2 => ?_))
    | (refine hH _ ?_; first | exact LI_fld hI f1 f2 z1 z2 (by rw [e1, e2, m1, hR.1.1]) (by rw [e2, m1]; exact fw_ct (fw_set hwM a1 a2)) | exact LI_ref hI f1 f2 | (exfalso; rw [t14] at *; omega) | (exfalso; exact a0 ⟨b1, b2⟩) | (exfalso; exact b0 ⟨a1, a2⟩) | (exfalso; omega))
  all_goals (first | exact LI_fld hI f1 f2 z1 z2 (by rw [e1, e2, m1, hR.1.1]) (by rw [e2, m1]; exact fw_ct (fw_set hwM a1 a2)) | exact LI_ref hI f1 f2 | (exfalso; rw [t14] at *; omega) | (exfalso; exact a0 ⟨b1, b2⟩) | (exfalso; exact b0 ⟨a1, a2⟩) | (exfalso; omega) | (trace_state; fail))
theorem lx_c6 {l : Launch} {L : Nat} {xs : Nat → Int} {i : Int} (hX : lx_X xs) (hL : L ≤ 2560) (i0 : 0 ≤ i) (i1 : i ≤ (L : Int) - 5) (hH : lx_H l L xs i) (μ : am_N) (hI : lx_I μ) : am_AW l L xs 0 lx_Q 434 [some (.inr (.inr 999)), some (.inr (.inr 0)), some (.inr (.inr 83)), some (.inl i)] [] μ := by
  have iL : (L : Int) ≤ 2560 := by omega
  have ix : ∀ k : Int, 0 ≤ k → k ≤ 4 → 0 ≤ am_c (i + k) ∧ am_c (i + k) < L := lx_ixT hL i0 i1
  have cx : ∀ j, am_c (xs j) = xs j := lx_cxT hX
  have hb := sx_all hI.1
  have hc := mi_all hI.2.1
  have hR := hI.2.2
  have hwM := hR.1.2
  have hwC : fp_fw 999 (fv μ 1) := by rw [hR.1.1]; exact hwM
  have n14 : 0 ≤ μ 1 4 ∧ μ 1 4 ≤ 4 := lx_n14T hI.1
  have nM : μ 1 4 = μ 83 14 := (fp_ct_n hR.1.1).1 4 (by decide)
  refine am_go (ct := fun pc => Nat.beq pc 1662) am_oL_law 60 ?_
  conv => whnf
  repeat' first
    | (refine (?_ : am_wp _ _ _ _ _ _ _ _ _ _ _ _); conv => whnf)
    | refine And.intro ⟨rfl, rfl⟩ ?_
    | refine And.intro (ix _ (by decide) (by decide)) ?_
    | refine And.intro trivial ?_
    | (refine s_run hwC hI.1.2.1 (by omega) (fun a1 a2 μ1 f1 h1 p34 e29 e62 r1 w1 o1 => ?_) (fun r1 μ1 a0 f1 => ?_))
    | (have m1 : mv μ1 = mv μ := mv_keep (fun a b q => f1 a b (by omega) (by omega) (by omega) (by omega) (by omega) (by omega) (by omega)); have t14 : μ1 83 14 = μ 83 14 := f1 83 14 (by omega) (by omega) (by omega) (by omega) (by omega) (by omega) (by omega); have t11 : μ1 83 11 = μ 83 11 := f1 83 11 (by omega) (by omega) (by omega) (by omega) (by omega) (by omega) (by omega); have t33 : μ1 83 33 = μ 83 33 := f1 83 33 (by omega) (by omega) (by omega) (by omega) (by omega) (by omega) (by omega); refine n_run (by rw [m1]; exact hwM) (fun p hp => by rw [f1 100 p (by omega) (by omega) (by omega) (by omega) (by omega) (by omega) (by omega)]; exact mi_or hI.2.1 p hp) (by rw [t33]; omega) (fun b1 b2 μ2 f2 h2 p100 e33 r2 w2 o2 q2 => ?_) (fun r2 μ2 b0 f2 => ?_))
    | (have m1 : mv μ1 = mv μ := mv_keep (fun a b q => f1 a b (by omega)); have t14 : μ1 83 14 = μ 83 14 := f1 83 14 (by omega); have t11 : μ1 83 11 = μ 83 11 := f1 83 11 (by omega); have t33 : μ1 83 33 = μ 83 33 := f1 83 33 (by omega); refine n_run (by rw [m1]; exact hwM) (fun p hp => by rw [f1 100 p (by omega)]; exact mi_or hI.2.1 p hp) (by rw [t33]; omega) (fun b1 b2 μ2 f2 h2 p100 e33 r2 w2 o2 q2 => ?_) (fun r2 μ2 b0 f2 => ?_))
    | (refine hH _ ?_; first | exact LI_run hI a2 f1 h1 p34 e29 e62 r1 w1 o1 f2 h2 p100 e33 r2 w2 o2 q2 | exact LI_ref hI f1 f2 | (exfalso; have nW : μ 1 1 = μ 83 11 := (fp_ct_n hR.1.1).1 1 (by decide); rw [t14, t11] at *; omega))
  all_goals (first | exact LI_run hI a2 f1 h1 p34 e29 e62 r1 w1 o1 f2 h2 p100 e33 r2 w2 o2 q2 | exact LI_ref hI f1 f2 | (exfalso; have nW : μ 1 1 = μ 83 11 := (fp_ct_n hR.1.1).1 1 (by decide); rw [t14, t11] at *; omega) | (trace_state; fail))
theorem lx_c7 {l : Launch} {L : Nat} {xs : Nat → Int} {i : Int} (hX : lx_X xs) (hL : L ≤ 2560) (i0 : 0 ≤ i) (i1 : i ≤ (L : Int) - 5) (hH : lx_H l L xs i) (μ : am_N) (hI : lx_I μ) : am_AW l L xs 0 lx_Q 447 [some (.inr (.inr 999)), some (.inr (.inr 0)), some (.inr (.inr 83)), some (.inl i)] [] μ := by
  have iL : (L : Int) ≤ 2560 := by omega
  have ix : ∀ k : Int, 0 ≤ k → k ≤ 4 → 0 ≤ am_c (i + k) ∧ am_c (i + k) < L := lx_ixT hL i0 i1
  refine am_go (ct := fun pc => Nat.beq pc 1662) am_oL_law 60 ?_
  conv => whnf
  repeat' first
    | (refine (?_ : am_wp _ _ _ _ _ _ _ _ _ _ _ _); conv => whnf)
    | refine And.intro ⟨rfl, rfl⟩ ?_
    | refine And.intro (ix _ (by decide) (by decide)) ?_
    | refine And.intro trivial ?_
    | refine w_order_X6 (ν := μ)  hI.1  (fun r1 μ1 h0 => ?_)
  have h1 := gv_of_sx h0
  have hE : lx_E [] := lx_c rfl
  have hm1 := lx_mi hE h1 hI.2.1
  repeat' first
    | (refine (?_ : am_wp _ _ _ _ _ _ _ _ _ _ _ _); conv => whnf)
    | refine And.intro ⟨rfl, rfl⟩ ?_
    | refine And.intro (ix _ (by decide) (by decide)) ?_
    | refine And.intro trivial ?_
    | refine m_order  hm1  (fun r2 μ2 h2 => ?_)
  have hA : lx_A ms := lx_A0
  have hI2 : lx_I μ2 := LI_weak hI h1 h2 hE rfl hA fp_Acs
  repeat' first
    | (refine (?_ : am_wp _ _ _ _ _ _ _ _ _ _ _ _); conv => whnf)
    | refine And.intro trivial ?_
    | exact hH _ hI2
theorem lx_c8 {l : Launch} {L : Nat} {xs : Nat → Int} {i : Int} (hX : lx_X xs) (hL : L ≤ 2560) (i0 : 0 ≤ i) (i1 : i ≤ (L : Int) - 5) (hH : lx_H l L xs i) (μ : am_N) (hI : lx_I μ) : am_AW l L xs 0 lx_Q 460 [some (.inr (.inr 999)), some (.inr (.inr 0)), some (.inr (.inr 83)), some (.inl i)] [] μ := by
  have iL : (L : Int) ≤ 2560 := by omega
  have ix : ∀ k : Int, 0 ≤ k → k ≤ 4 → 0 ≤ am_c (i + k) ∧ am_c (i + k) < L := lx_ixT hL i0 i1
  refine am_go (ct := fun pc => Nat.beq pc 1662) am_oL_law 60 ?_
  conv => whnf
  repeat' first
    | (refine (?_ : am_wp _ _ _ _ _ _ _ _ _ _ _ _); conv => whnf)
    | refine And.intro ⟨rfl, rfl⟩ ?_
    | refine And.intro (ix _ (by decide) (by decide)) ?_
    | refine And.intro trivial ?_
    | refine w_likely_X6 (ν := μ) _ _ hI.1 (hX _).1 (hX _).2 (hX _).1 (hX _).2 (fun r1 μ1 h0 => ?_)
  have h1 := gv_of_sx h0
  have hE : lx_E [] := lx_c rfl
  have hm1 := lx_mi hE h1 hI.2.1
  repeat' first
    | (refine (?_ : am_wp _ _ _ _ _ _ _ _ _ _ _ _); conv => whnf)
    | refine And.intro ⟨rfl, rfl⟩ ?_
    | refine And.intro (ix _ (by decide) (by decide)) ?_
    | refine And.intro trivial ?_
    | refine m_likely _ _ hm1 (hX _).1 (hX _).2 (hX _).1 (hX _).2 (fun r2 μ2 h2 => ?_)
  have hA : lx_A ms := lx_A0
  have hI2 : lx_I μ2 := LI_weak hI h1 h2 hE rfl hA fp_Acs
  repeat' first
    | (refine (?_ : am_wp _ _ _ _ _ _ _ _ _ _ _ _); conv => whnf)
    | refine And.intro trivial ?_
    | exact hH _ hI2
theorem lx_c9 {l : Launch} {L : Nat} {xs : Nat → Int} {i : Int} (hX : lx_X xs) (hL : L ≤ 2560) (i0 : 0 ≤ i) (i1 : i ≤ (L : Int) - 5) (hH : lx_H l L xs i) (μ : am_N) (hI : lx_I μ) : am_AW l L xs 0 lx_Q 493 [some (.inr (.inr 999)), some (.inr (.inr 0)), some (.inr (.inr 83)), some (.inl i)] [] μ := by
  have iL : (L : Int) ≤ 2560 := by omega
  have ix : ∀ k : Int, 0 ≤ k → k ≤ 4 → 0 ≤ am_c (i + k) ∧ am_c (i + k) < L := lx_ixT hL i0 i1
  refine am_go (ct := fun pc => Nat.beq pc 1662) am_oL_law 60 ?_
  conv => whnf
  repeat' first
    | (refine (?_ : am_wp _ _ _ _ _ _ _ _ _ _ _ _); conv => whnf)
    | refine And.intro ⟨rfl, rfl⟩ ?_
    | refine And.intro (ix _ (by decide) (by decide)) ?_
    | refine And.intro trivial ?_
    | refine w_ordered_X6 (ν := μ) _ _ hI.1 (hX _).1 (hX _).2 (hX _).1 (hX _).2 (fun r1 μ1 h0 => ?_)
  have h1 := gv_of_sx h0
  have hE : lx_E [] := lx_c rfl
  have hm1 := lx_mi hE h1 hI.2.1
  repeat' first
    | (refine (?_ : am_wp _ _ _ _ _ _ _ _ _ _ _ _); conv => whnf)
    | refine And.intro ⟨rfl, rfl⟩ ?_
    | refine And.intro (ix _ (by decide) (by decide)) ?_
    | refine And.intro trivial ?_
    | refine m_ordered _ _ hm1 (hX _).1 (hX _).2 (hX _).1 (hX _).2 (fun r2 μ2 h2 => ?_)
  have hA : lx_A ms := lx_A0
  have hI2 : lx_I μ2 := LI_weak hI h1 h2 hE rfl hA fp_Acs
  repeat' first
    | (refine (?_ : am_wp _ _ _ _ _ _ _ _ _ _ _ _); conv => whnf)
    | refine And.intro trivial ?_
    | exact hH _ hI2
theorem lx_c10 {l : Launch} {L : Nat} {xs : Nat → Int} {i : Int} (hX : lx_X xs) (hL : L ≤ 2560) (i0 : 0 ≤ i) (i1 : i ≤ (L : Int) - 5) (hH : lx_H l L xs i) (μ : am_N) (hI : lx_I μ) : am_AW l L xs 0 lx_Q 526 [some (.inr (.inr 999)), some (.inr (.inr 0)), some (.inr (.inr 83)), some (.inl i)] [] μ := by
  have iL : (L : Int) ≤ 2560 := by omega
  have ix : ∀ k : Int, 0 ≤ k → k ≤ 4 → 0 ≤ am_c (i + k) ∧ am_c (i + k) < L := lx_ixT hL i0 i1
  refine am_go (ct := fun pc => Nat.beq pc 1662) am_oL_law 60 ?_
  conv => whnf
  repeat' first
    | (refine (?_ : am_wp _ _ _ _ _ _ _ _ _ _ _ _); conv => whnf)
    | refine And.intro ⟨rfl, rfl⟩ ?_
    | refine And.intro (ix _ (by decide) (by decide)) ?_
    | refine And.intro trivial ?_
    | refine w_close_X6 (ν := μ) _ _ hI.1 (hX _).1 (hX _).2 (hX _).1 (hX _).2 (fun r1 μ1 h0 => ?_)
  have h1 := gv_of_sx h0
  have hE : lx_E [] := lx_c rfl
  have hm1 := lx_mi hE h1 hI.2.1
  repeat' first
    | (refine (?_ : am_wp _ _ _ _ _ _ _ _ _ _ _ _); conv => whnf)
    | refine And.intro ⟨rfl, rfl⟩ ?_
    | refine And.intro (ix _ (by decide) (by decide)) ?_
    | refine And.intro trivial ?_
    | refine m_close _ _ hm1 (hX _).1 (hX _).2 (hX _).1 (hX _).2 (fun r2 μ2 h2 => ?_)
  have hA : lx_A ms := lx_A0
  have hI2 : lx_I μ2 := LI_weak hI h1 h2 hE rfl hA fp_Acs
  repeat' first
    | (refine (?_ : am_wp _ _ _ _ _ _ _ _ _ _ _ _); conv => whnf)
    | refine And.intro trivial ?_
    | exact hH _ hI2
theorem lx_c11 {l : Launch} {L : Nat} {xs : Nat → Int} {i : Int} (hX : lx_X xs) (hL : L ≤ 2560) (i0 : 0 ≤ i) (i1 : i ≤ (L : Int) - 5) (hH : lx_H l L xs i) (μ : am_N) (hI : lx_I μ) : am_AW l L xs 0 lx_Q 559 [some (.inr (.inr 999)), some (.inr (.inr 0)), some (.inr (.inr 83)), some (.inl i)] [] μ := by
  have iL : (L : Int) ≤ 2560 := by omega
  have ix : ∀ k : Int, 0 ≤ k → k ≤ 4 → 0 ≤ am_c (i + k) ∧ am_c (i + k) < L := lx_ixT hL i0 i1
  refine am_go (ct := fun pc => Nat.beq pc 1662) am_oL_law 60 ?_
  conv => whnf
  repeat' first
    | (refine (?_ : am_wp _ _ _ _ _ _ _ _ _ _ _ _); conv => whnf)
    | refine And.intro ⟨rfl, rfl⟩ ?_
    | refine And.intro (ix _ (by decide) (by decide)) ?_
    | refine And.intro trivial ?_
    | refine w_sure_X6 (ν := μ) _ hI.1 (hX _).1 (hX _).2 (fun r1 μ1 h0 => ?_)
  have h1 := gv_of_sx h0
  have hE : lx_E [] := lx_c rfl
  have hm1 := lx_mi hE h1 hI.2.1
  repeat' first
    | (refine (?_ : am_wp _ _ _ _ _ _ _ _ _ _ _ _); conv => whnf)
    | refine And.intro ⟨rfl, rfl⟩ ?_
    | refine And.intro (ix _ (by decide) (by decide)) ?_
    | refine And.intro trivial ?_
    | refine m_sure _ hm1 (hX _).1 (hX _).2 (fun r2 μ2 h2 => ?_)
  have hA : lx_A ms := lx_A0
  have hI2 : lx_I μ2 := LI_weak hI h1 h2 hE rfl hA fp_Acs
  repeat' first
    | (refine (?_ : am_wp _ _ _ _ _ _ _ _ _ _ _ _); conv => whnf)
    | refine And.intro trivial ?_
    | exact hH _ hI2
theorem lx_c12 {l : Launch} {L : Nat} {xs : Nat → Int} {i : Int} (hX : lx_X xs) (hL : L ≤ 2560) (i0 : 0 ≤ i) (i1 : i ≤ (L : Int) - 5) (hH : lx_H l L xs i) (μ : am_N) (hI : lx_I μ) : am_AW l L xs 0 lx_Q 582 [some (.inr (.inr 999)), some (.inr (.inr 0)), some (.inr (.inr 83)), some (.inl i)] [] μ := by
  have iL : (L : Int) ≤ 2560 := by omega
  have ix : ∀ k : Int, 0 ≤ k → k ≤ 4 → 0 ≤ am_c (i + k) ∧ am_c (i + k) < L := lx_ixT hL i0 i1
  refine am_go (ct := fun pc => Nat.beq pc 1662) am_oL_law 60 ?_
  conv => whnf
  repeat' first
    | (refine (?_ : am_wp _ _ _ _ _ _ _ _ _ _ _ _); conv => whnf)
    | refine And.intro ⟨rfl, rfl⟩ ?_
    | refine And.intro (ix _ (by decide) (by decide)) ?_
    | refine And.intro trivial ?_
    | refine w_even_X6 (ν := μ) _ _ hI.1 (hX _).1 (hX _).2 (hX _).1 (hX _).2 (fun r1 μ1 h0 => ?_)
  have h1 := gv_of_sx h0
  have hE : lx_E [] := lx_c rfl
  have hm1 := lx_mi hE h1 hI.2.1
  repeat' first
    | (refine (?_ : am_wp _ _ _ _ _ _ _ _ _ _ _ _); conv => whnf)
    | refine And.intro ⟨rfl, rfl⟩ ?_
    | refine And.intro (ix _ (by decide) (by decide)) ?_
    | refine And.intro trivial ?_
    | refine m_even _ _ hm1 (hX _).1 (hX _).2 (hX _).1 (hX _).2 (fun r2 μ2 h2 => ?_)
  have hA : lx_A ms := lx_A0
  have hI2 : lx_I μ2 := LI_weak hI h1 h2 hE rfl hA fp_Acs
  repeat' first
    | (refine (?_ : am_wp _ _ _ _ _ _ _ _ _ _ _ _); conv => whnf)
    | refine And.intro trivial ?_
    | exact hH _ hI2
/-! the law: cases -/
theorem lx_c13 {l : Launch} {L : Nat} {xs : Nat → Int} {i : Int} (hX : lx_X xs) (hL : L ≤ 2560) (i0 : 0 ≤ i) (i1 : i ≤ (L : Int) - 5) (hH : lx_H l L xs i) (μ : am_N) (hI : lx_I μ) : am_AW l L xs 0 lx_Q 615 [some (.inr (.inr 999)), some (.inr (.inr 0)), some (.inr (.inr 83)), some (.inl i)] [] μ := by
  have iL : (L : Int) ≤ 2560 := by omega
  have ix : ∀ k : Int, 0 ≤ k → k ≤ 4 → 0 ≤ am_c (i + k) ∧ am_c (i + k) < L := lx_ixT hL i0 i1
  refine am_go (ct := fun pc => Nat.beq pc 1662) am_oL_law 60 ?_
  conv => whnf
  repeat' first
    | (refine (?_ : am_wp _ _ _ _ _ _ _ _ _ _ _ _); conv => whnf)
    | refine And.intro ⟨rfl, rfl⟩ ?_
    | refine And.intro (ix _ (by decide) (by decide)) ?_
    | refine And.intro trivial ?_
    | refine w_starts_X6 (ν := μ) _ _ hI.1 (hX _).1 (hX _).2 (hX _).1 (hX _).2 (fun r1 μ1 h0 => ?_)
  have h1 := gv_of_sx h0
  have hE : lx_E [] := lx_c rfl
  have hm1 := lx_mi hE h1 hI.2.1
  repeat' first
    | (refine (?_ : am_wp _ _ _ _ _ _ _ _ _ _ _ _); conv => whnf)
    | refine And.intro ⟨rfl, rfl⟩ ?_
    | refine And.intro (ix _ (by decide) (by decide)) ?_
    | refine And.intro trivial ?_
    | refine m_starts _ _ hm1 (hX _).1 (hX _).2 (hX _).1 (hX _).2 (fun r2 μ2 h2 => ?_)
  have hA : lx_A mQ := (lx_Ao lx_A0 lx_Q1)
  have hI2 : lx_I μ2 := LI_weak hI h1 h2 hE rfl hA fp_AcQ
  repeat' first
    | (refine (?_ : am_wp _ _ _ _ _ _ _ _ _ _ _ _); conv => whnf)
    | refine And.intro trivial ?_
    | exact hH _ hI2
theorem lx_c14 {l : Launch} {L : Nat} {xs : Nat → Int} {i : Int} (hX : lx_X xs) (hL : L ≤ 2560) (i0 : 0 ≤ i) (i1 : i ≤ (L : Int) - 5) (hH : lx_H l L xs i) (μ : am_N) (hI : lx_I μ) : am_AW l L xs 0 lx_Q 648 [some (.inr (.inr 999)), some (.inr (.inr 0)), some (.inr (.inr 83)), some (.inl i)] [] μ := by
  have iL : (L : Int) ≤ 2560 := by omega
  have ix : ∀ k : Int, 0 ≤ k → k ≤ 4 → 0 ≤ am_c (i + k) ∧ am_c (i + k) < L := lx_ixT hL i0 i1
  refine am_go (ct := fun pc => Nat.beq pc 1662) am_oL_law 60 ?_
  conv => whnf
  repeat' first
    | (refine (?_ : am_wp _ _ _ _ _ _ _ _ _ _ _ _); conv => whnf)
    | refine And.intro ⟨rfl, rfl⟩ ?_
    | refine And.intro (ix _ (by decide) (by decide)) ?_
    | refine And.intro trivial ?_
    | refine w_load_X6 (ν := μ) _ hI.1 (hX _).1 (hX _).2 (fun r1 μ1 h0 => ?_)
  have h1 := gv_of_sx h0
  have hE : lx_E [] := lx_c rfl
  have hm1 := lx_mi hE h1 hI.2.1
  repeat' first
    | (refine (?_ : am_wp _ _ _ _ _ _ _ _ _ _ _ _); conv => whnf)
    | refine And.intro ⟨rfl, rfl⟩ ?_
    | refine And.intro (ix _ (by decide) (by decide)) ?_
    | refine And.intro trivial ?_
    | refine m_load _ hm1 (hX _).1 (hX _).2 (fun r2 μ2 h2 => ?_)
  have hA : lx_A mQ := (lx_Ao lx_A0 lx_Q1)
  have hI2 : lx_I μ2 := LI_weak hI h1 h2 hE rfl hA fp_AcQ
  repeat' first
    | (refine (?_ : am_wp _ _ _ _ _ _ _ _ _ _ _ _); conv => whnf)
    | refine And.intro trivial ?_
    | exact hH _ hI2
theorem lx_c15 {l : Launch} {L : Nat} {xs : Nat → Int} {i : Int} (hX : lx_X xs) (hL : L ≤ 2560) (i0 : 0 ≤ i) (i1 : i ≤ (L : Int) - 5) (hH : lx_H l L xs i) (μ : am_N) (hI : lx_I μ) : am_AW l L xs 0 lx_Q 671 [some (.inr (.inr 999)), some (.inr (.inr 0)), some (.inr (.inr 83)), some (.inl i)] [] μ := by
  have iL : (L : Int) ≤ 2560 := by omega
  have ix : ∀ k : Int, 0 ≤ k → k ≤ 4 → 0 ≤ am_c (i + k) ∧ am_c (i + k) < L := lx_ixT hL i0 i1
  refine am_go (ct := fun pc => Nat.beq pc 1662) am_oL_law 60 ?_
  conv => whnf
  repeat' first
    | (refine (?_ : am_wp _ _ _ _ _ _ _ _ _ _ _ _); conv => whnf)
    | refine And.intro ⟨rfl, rfl⟩ ?_
    | refine And.intro (ix _ (by decide) (by decide)) ?_
    | refine And.intro trivial ?_
    | refine w_on_X6 (ν := μ) _ _ _ hI.1 (hX _).1 (hX _).2 (hX _).1 (hX _).2 (hX _).1 (hX _).2 (fun r1 μ1 h0 => ?_)
  have h1 := gv_of_sx h0
  have hE : lx_E [] := lx_c rfl
  have hm1 := lx_mi hE h1 hI.2.1
  repeat' first
    | (refine (?_ : am_wp _ _ _ _ _ _ _ _ _ _ _ _); conv => whnf)
    | refine And.intro ⟨rfl, rfl⟩ ?_
    | refine And.intro (ix _ (by decide) (by decide)) ?_
    | refine And.intro trivial ?_
    | refine m_on _ _ _ hm1 (hX _).1 (hX _).2 (hX _).1 (hX _).2 (hX _).1 (hX _).2 (fun r2 μ2 h2 => ?_)
  have hA : lx_A mQ := (lx_Ao lx_A0 lx_Q1)
  have hI2 : lx_I μ2 := LI_weak hI h1 h2 hE rfl hA fp_AcQ
  repeat' first
    | (refine (?_ : am_wp _ _ _ _ _ _ _ _ _ _ _ _); conv => whnf)
    | refine And.intro trivial ?_
    | exact hH _ hI2
theorem lx_c16 {l : Launch} {L : Nat} {xs : Nat → Int} {i : Int} (hX : lx_X xs) (hL : L ≤ 2560) (i0 : 0 ≤ i) (i1 : i ≤ (L : Int) - 5) (hH : lx_H l L xs i) (μ : am_N) (hI : lx_I μ) : am_AW l L xs 0 lx_Q 714 [some (.inr (.inr 999)), some (.inr (.inr 0)), some (.inr (.inr 83)), some (.inl i)] [] μ := by
  have iL : (L : Int) ≤ 2560 := by omega
  have ix : ∀ k : Int, 0 ≤ k → k ≤ 4 → 0 ≤ am_c (i + k) ∧ am_c (i + k) < L := lx_ixT hL i0 i1
  refine am_go (ct := fun pc => Nat.beq pc 1662) am_oL_law 60 ?_
  conv => whnf
  repeat' first
    | (refine (?_ : am_wp _ _ _ _ _ _ _ _ _ _ _ _); conv => whnf)
    | refine And.intro ⟨rfl, rfl⟩ ?_
    | refine And.intro (ix _ (by decide) (by decide)) ?_
    | refine And.intro trivial ?_
    | refine w_settles_X6 (ν := μ)  hI.1  (fun r1 μ1 h0 => ?_)
  have h1 := gv_of_sx h0
  have hE : lx_E [] := lx_c rfl
  have hm1 := lx_mi hE h1 hI.2.1
  repeat' first
    | (refine (?_ : am_wp _ _ _ _ _ _ _ _ _ _ _ _); conv => whnf)
    | refine And.intro ⟨rfl, rfl⟩ ?_
    | refine And.intro (ix _ (by decide) (by decide)) ?_
    | refine And.intro trivial ?_
    | refine m_settles  hm1  (fun r2 μ2 h2 => ?_)
  have hA : lx_A mQ := (lx_Ao lx_A0 lx_Q1)
  have hI2 : lx_I μ2 := LI_weak hI h1 h2 hE rfl hA fp_AcQ
  repeat' first
    | (refine (?_ : am_wp _ _ _ _ _ _ _ _ _ _ _ _); conv => whnf)
    | refine And.intro trivial ?_
    | exact hH _ hI2
theorem lx_c17 {l : Launch} {L : Nat} {xs : Nat → Int} {i : Int} (hX : lx_X xs) (hL : L ≤ 2560) (i0 : 0 ≤ i) (i1 : i ≤ (L : Int) - 5) (hH : lx_H l L xs i) (μ : am_N) (hI : lx_I μ) : am_AW l L xs 0 lx_Q 727 [some (.inr (.inr 999)), some (.inr (.inr 0)), some (.inr (.inr 83)), some (.inl i)] [] μ := by
  have iL : (L : Int) ≤ 2560 := by omega
  have ix : ∀ k : Int, 0 ≤ k → k ≤ 4 → 0 ≤ am_c (i + k) ∧ am_c (i + k) < L := lx_ixT hL i0 i1
  refine am_go (ct := fun pc => Nat.beq pc 1662) am_oL_law 60 ?_
  conv => whnf
  repeat' first
    | (refine (?_ : am_wp _ _ _ _ _ _ _ _ _ _ _ _); conv => whnf)
    | refine And.intro ⟨rfl, rfl⟩ ?_
    | refine And.intro (ix _ (by decide) (by decide)) ?_
    | refine And.intro trivial ?_
    | refine w_best_X6 (ν := μ) _ hI.1 (hX _).1 (hX _).2 (fun r1 μ1 h0 => ?_)
  have h1 := gv_of_sx h0
  have hE : lx_E [] := lx_c rfl
  have hm1 := lx_mi hE h1 hI.2.1
  repeat' first
    | (refine (?_ : am_wp _ _ _ _ _ _ _ _ _ _ _ _); conv => whnf)
    | refine And.intro ⟨rfl, rfl⟩ ?_
    | refine And.intro (ix _ (by decide) (by decide)) ?_
    | refine And.intro trivial ?_
    | refine m_best _ hm1 (hX _).1 (hX _).2 (fun r2 μ2 h2 => ?_)
  have hA : lx_A mQ := (lx_Ao lx_A0 lx_Q1)
  have hI2 : lx_I μ2 := LI_weak hI h1 h2 hE rfl hA fp_AcQ
  repeat' first
    | (refine (?_ : am_wp _ _ _ _ _ _ _ _ _ _ _ _); conv => whnf)
    | refine And.intro trivial ?_
    | exact hH _ hI2
theorem lx_c18 {l : Launch} {L : Nat} {xs : Nat → Int} {i : Int} (hX : lx_X xs) (hL : L ≤ 2560) (i0 : 0 ≤ i) (i1 : i ≤ (L : Int) - 5) (hH : lx_H l L xs i) (μ : am_N) (hI : lx_I μ) : am_AW l L xs 0 lx_Q 750 [some (.inr (.inr 999)), some (.inr (.inr 0)), some (.inr (.inr 83)), some (.inl i)] [] μ := by
  have iL : (L : Int) ≤ 2560 := by omega
  have ix : ∀ k : Int, 0 ≤ k → k ≤ 4 → 0 ≤ am_c (i + k) ∧ am_c (i + k) < L := lx_ixT hL i0 i1
  refine am_go (ct := fun pc => Nat.beq pc 1662) am_oL_law 60 ?_
  conv => whnf
  repeat' first
    | (refine (?_ : am_wp _ _ _ _ _ _ _ _ _ _ _ _); conv => whnf)
    | refine And.intro ⟨rfl, rfl⟩ ?_
    | refine And.intro (ix _ (by decide) (by decide)) ?_
    | refine And.intro trivial ?_
    | refine w_pays_X6 (ν := μ) _ _ hI.1 (hX _).1 (hX _).2 (hX _).1 (hX _).2 (fun r1 μ1 h0 => ?_)
  have h1 := gv_of_sx h0
  have hE : lx_E [] := lx_c rfl
  have hm1 := lx_mi hE h1 hI.2.1
  repeat' first
    | (refine (?_ : am_wp _ _ _ _ _ _ _ _ _ _ _ _); conv => whnf)
    | refine And.intro ⟨rfl, rfl⟩ ?_
    | refine And.intro (ix _ (by decide) (by decide)) ?_
    | refine And.intro trivial ?_
    | refine m_pays _ _ hm1 (hX _).1 (hX _).2 (hX _).1 (hX _).2 (fun r2 μ2 h2 => ?_)
  have hA : lx_A mQ := (lx_Ao lx_A0 lx_Q1)
  have hI2 : lx_I μ2 := LI_weak hI h1 h2 hE rfl hA fp_AcQ
  repeat' first
    | (refine (?_ : am_wp _ _ _ _ _ _ _ _ _ _ _ _); conv => whnf)
    | refine And.intro trivial ?_
    | exact hH _ hI2
theorem lx_c19 {l : Launch} {L : Nat} {xs : Nat → Int} {i : Int} (hX : lx_X xs) (hL : L ≤ 2560) (i0 : 0 ≤ i) (i1 : i ≤ (L : Int) - 5) (hH : lx_H l L xs i) (μ : am_N) (hI : lx_I μ) : am_AW l L xs 0 lx_Q 783 [some (.inr (.inr 999)), some (.inr (.inr 0)), some (.inr (.inr 83)), some (.inl i)] [] μ := by
  have iL : (L : Int) ≤ 2560 := by omega
  have ix : ∀ k : Int, 0 ≤ k → k ≤ 4 → 0 ≤ am_c (i + k) ∧ am_c (i + k) < L := lx_ixT hL i0 i1
  refine am_go (ct := fun pc => Nat.beq pc 1662) am_oL_law 60 ?_
  conv => whnf
  repeat' first
    | (refine (?_ : am_wp _ _ _ _ _ _ _ _ _ _ _ _); conv => whnf)
    | refine And.intro ⟨rfl, rfl⟩ ?_
    | refine And.intro (ix _ (by decide) (by decide)) ?_
    | refine And.intro trivial ?_
    | refine w_worth_X6 (ν := μ) _ _ hI.1 (hX _).1 (hX _).2 (hX _).1 (hX _).2 (fun r1 μ1 h0 => ?_)
  have h1 := gv_of_sx h0
  have hE : lx_E [] := lx_c rfl
  have hm1 := lx_mi hE h1 hI.2.1
  repeat' first
    | (refine (?_ : am_wp _ _ _ _ _ _ _ _ _ _ _ _); conv => whnf)
    | refine And.intro ⟨rfl, rfl⟩ ?_
    | refine And.intro (ix _ (by decide) (by decide)) ?_
    | refine And.intro trivial ?_
    | refine m_worth _ _ hm1 (hX _).1 (hX _).2 (hX _).1 (hX _).2 (fun r2 μ2 h2 => ?_)
  have hA : lx_A ms := lx_A0
  have hI2 : lx_I μ2 := LI_weak hI h1 h2 hE rfl hA fp_Acs
  repeat' first
    | (refine (?_ : am_wp _ _ _ _ _ _ _ _ _ _ _ _); conv => whnf)
    | refine And.intro trivial ?_
    | exact hH _ hI2
theorem lx_c20 {l : Launch} {L : Nat} {xs : Nat → Int} {i : Int} (hX : lx_X xs) (hL : L ≤ 2560) (i0 : 0 ≤ i) (i1 : i ≤ (L : Int) - 5) (hH : lx_H l L xs i) (μ : am_N) (hI : lx_I μ) : am_AW l L xs 0 lx_Q 816 [some (.inr (.inr 999)), some (.inr (.inr 0)), some (.inr (.inr 83)), some (.inl i)] [] μ := by
  have iL : (L : Int) ≤ 2560 := by omega
  have ix : ∀ k : Int, 0 ≤ k → k ≤ 4 → 0 ≤ am_c (i + k) ∧ am_c (i + k) < L := lx_ixT hL i0 i1
  refine am_go (ct := fun pc => Nat.beq pc 1662) am_oL_law 60 ?_
  conv => whnf
  repeat' first
    | (refine (?_ : am_wp _ _ _ _ _ _ _ _ _ _ _ _); conv => whnf)
    | refine And.intro ⟨rfl, rfl⟩ ?_
    | refine And.intro (ix _ (by decide) (by decide)) ?_
    | refine And.intro trivial ?_
    | refine w_same_X6 (ν := μ) _ _ _ hI.1 (hX _).1 (hX _).2 (hX _).1 (hX _).2 (hX _).1 (hX _).2 (fun r1 μ1 h0 => ?_)
  have h1 := gv_of_sx h0
  have hE : lx_E [] := lx_c rfl
  have hm1 := lx_mi hE h1 hI.2.1
  repeat' first
    | (refine (?_ : am_wp _ _ _ _ _ _ _ _ _ _ _ _); conv => whnf)
    | refine And.intro ⟨rfl, rfl⟩ ?_
    | refine And.intro (ix _ (by decide) (by decide)) ?_
    | refine And.intro trivial ?_
    | refine m_same _ _ _ hm1 (hX _).1 (hX _).2 (hX _).1 (hX _).2 (hX _).1 (hX _).2 (fun r2 μ2 h2 => ?_)
  have hA : lx_A ms := lx_A0
  have hI2 : lx_I μ2 := LI_weak hI h1 h2 hE rfl hA fp_Acs
  repeat' first
    | (refine (?_ : am_wp _ _ _ _ _ _ _ _ _ _ _ _); conv => whnf)
    | refine And.intro trivial ?_
    | exact hH _ hI2
theorem lx_c21 {l : Launch} {L : Nat} {xs : Nat → Int} {i : Int} (hX : lx_X xs) (hL : L ≤ 2560) (i0 : 0 ≤ i) (i1 : i ≤ (L : Int) - 5) (hH : lx_H l L xs i) (μ : am_N) (hI : lx_I μ) : am_AW l L xs 0 lx_Q 859 [some (.inr (.inr 999)), some (.inr (.inr 0)), some (.inr (.inr 83)), some (.inl i)] [] μ := by
  have iL : (L : Int) ≤ 2560 := by omega
  have ix : ∀ k : Int, 0 ≤ k → k ≤ 4 → 0 ≤ am_c (i + k) ∧ am_c (i + k) < L := lx_ixT hL i0 i1
  refine am_go (ct := fun pc => Nat.beq pc 1662) am_oL_law 60 ?_
  conv => whnf
  repeat' first
    | (refine (?_ : am_wp _ _ _ _ _ _ _ _ _ _ _ _); conv => whnf)
    | refine And.intro ⟨rfl, rfl⟩ ?_
    | refine And.intro (ix _ (by decide) (by decide)) ?_
    | refine And.intro trivial ?_
    | refine w_teams_X6 (ν := μ) _ hI.1 (hX _).1 (hX _).2 (fun r1 μ1 h0 => ?_)
  have h1 := gv_of_sx h0
  have hE : lx_E [] := lx_c rfl
  have hm1 := lx_mi hE h1 hI.2.1
  repeat' first
    | (refine (?_ : am_wp _ _ _ _ _ _ _ _ _ _ _ _); conv => whnf)
    | refine And.intro ⟨rfl, rfl⟩ ?_
    | refine And.intro (ix _ (by decide) (by decide)) ?_
    | refine And.intro trivial ?_
    | refine m_teams _ hm1 (hX _).1 (hX _).2 (fun r2 μ2 h2 => ?_)
  have hA : lx_A ms := lx_A0
  have hI2 : lx_I μ2 := LI_weak hI h1 h2 hE rfl hA fp_Acs
  repeat' first
    | (refine (?_ : am_wp _ _ _ _ _ _ _ _ _ _ _ _); conv => whnf)
    | refine And.intro trivial ?_
    | exact hH _ hI2
theorem lx_c22 {l : Launch} {L : Nat} {xs : Nat → Int} {i : Int} (hX : lx_X xs) (hL : L ≤ 2560) (i0 : 0 ≤ i) (i1 : i ≤ (L : Int) - 5) (hH : lx_H l L xs i) (μ : am_N) (hI : lx_I μ) : am_AW l L xs 0 lx_Q 882 [some (.inr (.inr 999)), some (.inr (.inr 0)), some (.inr (.inr 83)), some (.inl i)] [] μ := by
  have iL : (L : Int) ≤ 2560 := by omega
  have ix : ∀ k : Int, 0 ≤ k → k ≤ 4 → 0 ≤ am_c (i + k) ∧ am_c (i + k) < L := lx_ixT hL i0 i1
  refine am_go (ct := fun pc => Nat.beq pc 1662) am_oL_law 60 ?_
  conv => whnf
  repeat' first
    | (refine (?_ : am_wp _ _ _ _ _ _ _ _ _ _ _ _); conv => whnf)
    | refine And.intro ⟨rfl, rfl⟩ ?_
    | refine And.intro (ix _ (by decide) (by decide)) ?_
    | refine And.intro trivial ?_
    | refine w_longer_X6 (ν := μ) _ hI.1 (hX _).1 (hX _).2 (fun r1 μ1 h0 => ?_)
  have h1 := gv_of_sx h0
  have hE : lx_E [] := lx_c rfl
  have hm1 := lx_mi hE h1 hI.2.1
  repeat' first
    | (refine (?_ : am_wp _ _ _ _ _ _ _ _ _ _ _ _); conv => whnf)
    | refine And.intro ⟨rfl, rfl⟩ ?_
    | refine And.intro (ix _ (by decide) (by decide)) ?_
    | refine And.intro trivial ?_
    | refine m_longer _ hm1 (hX _).1 (hX _).2 (fun r2 μ2 h2 => ?_)
  have hA : lx_A ms := lx_A0
  have hI2 : lx_I μ2 := LI_weak hI h1 h2 hE rfl hA fp_Acs
  repeat' first
    | (refine (?_ : am_wp _ _ _ _ _ _ _ _ _ _ _ _); conv => whnf)
    | refine And.intro trivial ?_
    | exact hH _ hI2
theorem lx_c23 {l : Launch} {L : Nat} {xs : Nat → Int} {i : Int} (hX : lx_X xs) (hL : L ≤ 2560) (i0 : 0 ≤ i) (i1 : i ≤ (L : Int) - 5) (hH : lx_H l L xs i) (μ : am_N) (hI : lx_I μ) : am_AW l L xs 0 lx_Q 905 [some (.inr (.inr 999)), some (.inr (.inr 0)), some (.inr (.inr 83)), some (.inl i)] [] μ := by
  have iL : (L : Int) ≤ 2560 := by omega
  have ix : ∀ k : Int, 0 ≤ k → k ≤ 4 → 0 ≤ am_c (i + k) ∧ am_c (i + k) < L := lx_ixT hL i0 i1
  refine am_go (ct := fun pc => Nat.beq pc 1662) am_oL_law 60 ?_
  conv => whnf
  repeat' first
    | (refine (?_ : am_wp _ _ _ _ _ _ _ _ _ _ _ _); conv => whnf)
    | refine And.intro ⟨rfl, rfl⟩ ?_
    | refine And.intro (ix _ (by decide) (by decide)) ?_
    | refine And.intro trivial ?_
    | refine w_fits_X6 (ν := μ) _ _ hI.1 (hX _).1 (hX _).2 (hX _).1 (hX _).2 (fun r1 μ1 h0 => ?_)
  have h1 := gv_of_sx h0
  have hE : lx_E [] := lx_c rfl
  have hm1 := lx_mi hE h1 hI.2.1
  repeat' first
    | (refine (?_ : am_wp _ _ _ _ _ _ _ _ _ _ _ _); conv => whnf)
    | refine And.intro ⟨rfl, rfl⟩ ?_
    | refine And.intro (ix _ (by decide) (by decide)) ?_
    | refine And.intro trivial ?_
    | refine m_fits _ _ hm1 (hX _).1 (hX _).2 (hX _).1 (hX _).2 (fun r2 μ2 h2 => ?_)
  have hA : lx_A mQ := (lx_Ao lx_A0 lx_Q1)
  have hI2 : lx_I μ2 := LI_weak hI h1 h2 hE rfl hA fp_AcQ
  repeat' first
    | (refine (?_ : am_wp _ _ _ _ _ _ _ _ _ _ _ _); conv => whnf)
    | refine And.intro trivial ?_
    | exact hH _ hI2
theorem lx_c24 {l : Launch} {L : Nat} {xs : Nat → Int} {i : Int} (hX : lx_X xs) (hL : L ≤ 2560) (i0 : 0 ≤ i) (i1 : i ≤ (L : Int) - 5) (hH : lx_H l L xs i) (μ : am_N) (hI : lx_I μ) : am_AW l L xs 0 lx_Q 938 [some (.inr (.inr 999)), some (.inr (.inr 0)), some (.inr (.inr 83)), some (.inl i)] [] μ := by
  have iL : (L : Int) ≤ 2560 := by omega
  have ix : ∀ k : Int, 0 ≤ k → k ≤ 4 → 0 ≤ am_c (i + k) ∧ am_c (i + k) < L := lx_ixT hL i0 i1
  refine am_go (ct := fun pc => Nat.beq pc 1662) am_oL_law 60 ?_
  conv => whnf
  repeat' first
    | (refine (?_ : am_wp _ _ _ _ _ _ _ _ _ _ _ _); conv => whnf)
    | refine And.intro ⟨rfl, rfl⟩ ?_
    | refine And.intro (ix _ (by decide) (by decide)) ?_
    | refine And.intro trivial ?_
    | refine w_let_X6 (ν := μ)  hI.1  (fun r1 μ1 h0 => ?_)
  have h1 := gv_of_sx h0
  have hE : lx_E [] := lx_c rfl
  have hm1 := lx_mi hE h1 hI.2.1
  repeat' first
    | (refine (?_ : am_wp _ _ _ _ _ _ _ _ _ _ _ _); conv => whnf)
    | refine And.intro ⟨rfl, rfl⟩ ?_
    | refine And.intro (ix _ (by decide) (by decide)) ?_
    | refine And.intro trivial ?_
    | refine m_let  hm1  (fun r2 μ2 h2 => ?_)
  have hA : lx_A ms := lx_A0
  have hI2 : lx_I μ2 := LI_weak hI h1 h2 hE rfl hA fp_Acs
  repeat' first
    | (refine (?_ : am_wp _ _ _ _ _ _ _ _ _ _ _ _); conv => whnf)
    | refine And.intro trivial ?_
    | exact hH _ hI2
theorem lx_c25 {l : Launch} {L : Nat} {xs : Nat → Int} {i : Int} (hX : lx_X xs) (hL : L ≤ 2560) (i0 : 0 ≤ i) (i1 : i ≤ (L : Int) - 5) (hH : lx_H l L xs i) (μ : am_N) (hI : lx_I μ) : am_AW l L xs 0 lx_Q 951 [some (.inr (.inr 999)), some (.inr (.inr 0)), some (.inr (.inr 83)), some (.inl i)] [] μ := by
  have iL : (L : Int) ≤ 2560 := by omega
  have ix : ∀ k : Int, 0 ≤ k → k ≤ 4 → 0 ≤ am_c (i + k) ∧ am_c (i + k) < L := lx_ixT hL i0 i1
  refine am_go (ct := fun pc => Nat.beq pc 1662) am_oL_law 60 ?_
  conv => whnf
  repeat' first
    | (refine (?_ : am_wp _ _ _ _ _ _ _ _ _ _ _ _); conv => whnf)
    | refine And.intro ⟨rfl, rfl⟩ ?_
    | refine And.intro (ix _ (by decide) (by decide)) ?_
    | refine And.intro trivial ?_
    | refine v_row_X6 _ hI.1 (hX _).1 (hX _).2 (fun r1 μ1 h1 f0 => ?_)
  have hE : lx_E [44, 45] := lx_c rfl
  have hm1 := lx_mi hE h1 hI.2.1
  repeat' first
    | (refine (?_ : am_wp _ _ _ _ _ _ _ _ _ _ _ _); conv => whnf)
    | refine And.intro ⟨rfl, rfl⟩ ?_
    | refine And.intro (ix _ (by decide) (by decide)) ?_
    | refine And.intro trivial ?_
    | refine m_row _ hm1 (hX _).1 (hX _).2 (fun r2 μ2 h2 g0 => ?_)
  have hA : lx_A (mo ms (m1o 106 42)) := (lx_Ao lx_A0 (lx_mo (by decide)))
  have hI2 : lx_I μ2 := LI_weak hI h1 h2 hE rfl hA (fp_Aco fp_Acs (fp_Ac1 (by decide) (by decide)))
  repeat' first
    | (refine (?_ : am_wp _ _ _ _ _ _ _ _ _ _ _ _); conv => whnf)
    | refine And.intro trivial ?_
    | exact hH _ hI2
/-! the law: cases -/
theorem lx_c26 {l : Launch} {L : Nat} {xs : Nat → Int} {i : Int} (hX : lx_X xs) (hL : L ≤ 2560) (i0 : 0 ≤ i) (i1 : i ≤ (L : Int) - 5) (hH : lx_H l L xs i) (μ : am_N) (hI : lx_I μ) : am_AW l L xs 0 lx_Q 974 [some (.inr (.inr 999)), some (.inr (.inr 0)), some (.inr (.inr 83)), some (.inl i)] [] μ := by
  have iL : (L : Int) ≤ 2560 := by omega
  have ix : ∀ k : Int, 0 ≤ k → k ≤ 4 → 0 ≤ am_c (i + k) ∧ am_c (i + k) < L := lx_ixT hL i0 i1
  refine am_go (ct := fun pc => Nat.beq pc 1662) am_oL_law 60 ?_
  conv => whnf
  repeat' first
    | (refine (?_ : am_wp _ _ _ _ _ _ _ _ _ _ _ _); conv => whnf)
    | refine And.intro ⟨rfl, rfl⟩ ?_
    | refine And.intro (ix _ (by decide) (by decide)) ?_
    | refine And.intro trivial ?_
    | refine v_judge_X6  hI.1  (fun r1 μ1 h1 f0 => ?_)
  have hE : lx_E [44] := lx_c rfl
  have hm1 := lx_mi hE h1 hI.2.1
  repeat' first
    | (refine (?_ : am_wp _ _ _ _ _ _ _ _ _ _ _ _); conv => whnf)
    | refine And.intro ⟨rfl, rfl⟩ ?_
    | refine And.intro (ix _ (by decide) (by decide)) ?_
    | refine And.intro trivial ?_
    | refine m_judge  hm1  (fun r2 μ2 h2 g0 => ?_)
  have hA : lx_A (mo mQ (m1o 83000 42)) := (lx_Ao (lx_Ao lx_A0 lx_Q1) (lx_mo (by decide)))
  have hI2 : lx_I μ2 := LI_weak hI h1 h2 hE rfl hA (fp_Aco fp_AcQ (fp_Ac1 (by decide) (by decide)))
  repeat' first
    | (refine (?_ : am_wp _ _ _ _ _ _ _ _ _ _ _ _); conv => whnf)
    | refine And.intro trivial ?_
    | exact hH _ hI2
theorem lx_c27 {l : Launch} {L : Nat} {xs : Nat → Int} {i : Int} (hX : lx_X xs) (hL : L ≤ 2560) (i0 : 0 ≤ i) (i1 : i ≤ (L : Int) - 5) (hH : lx_H l L xs i) (μ : am_N) (hI : lx_I μ) : am_AW l L xs 0 lx_Q 987 [some (.inr (.inr 999)), some (.inr (.inr 0)), some (.inr (.inr 83)), some (.inl i)] [] μ := by
  have iL : (L : Int) ≤ 2560 := by omega
  have ix : ∀ k : Int, 0 ≤ k → k ≤ 4 → 0 ≤ am_c (i + k) ∧ am_c (i + k) < L := lx_ixT hL i0 i1
  refine am_go (ct := fun pc => Nat.beq pc 1662) am_oL_law 60 ?_
  conv => whnf
  repeat' first
    | (refine (?_ : am_wp _ _ _ _ _ _ _ _ _ _ _ _); conv => whnf)
    | refine And.intro ⟨rfl, rfl⟩ ?_
    | refine And.intro (ix _ (by decide) (by decide)) ?_
    | refine And.intro trivial ?_
    | refine v_clear_X6  hI.1  (fun r1 μ1 h1 f0 f1 => ?_)
  have hE : lx_E [44] := lx_c rfl
  have hm1 := lx_mi hE h1 hI.2.1
  repeat' first
    | (refine (?_ : am_wp _ _ _ _ _ _ _ _ _ _ _ _); conv => whnf)
    | refine And.intro ⟨rfl, rfl⟩ ?_
    | refine And.intro (ix _ (by decide) (by decide)) ?_
    | refine And.intro trivial ?_
    | refine m_clear  hm1  (fun r2 μ2 h2 g0 g1 => ?_)
  have hA : lx_A (mo ms (m1o 83000 42)) := (lx_Ao lx_A0 (lx_mo (by decide)))
  have hI2 : lx_I μ2 := LI_weak hI h1 h2 hE rfl hA (fp_Aco fp_Acs (fp_Ac1 (by decide) (by decide)))
  repeat' first
    | (refine (?_ : am_wp _ _ _ _ _ _ _ _ _ _ _ _); conv => whnf)
    | refine And.intro trivial ?_
    | exact hH _ hI2
theorem lx_c28 {l : Launch} {L : Nat} {xs : Nat → Int} {i : Int} (hX : lx_X xs) (hL : L ≤ 2560) (i0 : 0 ≤ i) (i1 : i ≤ (L : Int) - 5) (hH : lx_H l L xs i) (μ : am_N) (hI : lx_I μ) : am_AW l L xs 0 lx_Q 1000 [some (.inr (.inr 999)), some (.inr (.inr 0)), some (.inr (.inr 83)), some (.inl i)] [] μ := by
  have iL : (L : Int) ≤ 2560 := by omega
  have ix : ∀ k : Int, 0 ≤ k → k ≤ 4 → 0 ≤ am_c (i + k) ∧ am_c (i + k) < L := lx_ixT hL i0 i1
  have cx : ∀ j, am_c (xs j) = xs j := lx_cxT hX
  have hb := sx_all hI.1
  have hc := mi_all hI.2.1
  have hR := hI.2.2
  have hwM := hR.1.2
  have hwC : fp_fw 999 (fv μ 1) := by rw [hR.1.1]; exact hwM
  have n14 : 0 ≤ μ 1 4 ∧ μ 1 4 ≤ 4 := lx_n14T hI.1
  have nM : μ 1 4 = μ 83 14 := (fp_ct_n hR.1.1).1 4 (by decide)
  refine am_go (ct := fun pc => Nat.beq pc 1662) am_oL_law 60 ?_
  conv => whnf
  repeat' first
    | (refine (?_ : am_wp _ _ _ _ _ _ _ _ _ _ _ _); conv => whnf)
    | refine And.intro ⟨rfl, rfl⟩ ?_
    | refine And.intro (ix _ (by decide) (by decide)) ?_
    | refine And.intro trivial ?_
    | refine s_seeds _ _ _ _ (cx _) (cx _) (cx _) hI.1 hwC (fun μ1 h0 => ?_)
    | (have h1 := gv_of_sx h0; have m1 : mv μ1 = mv μ := mv_keep (fun a b q => h0.1 a b (sx_p83 (by omega))); refine n_seeds _ _ _ _ (cx _) (cx _) (cx _) (lx_mi (lx_c rfl) h1 hI.2.1) (by rw [m1]; exact hwM) (fun μ2 h2 => ?_))
    | (refine hH _ ?_; first | exact LI_weak (E := []) hI h1 h2 (lx_c rfl) rfl (lx_Ao lx_A0 lx_Q1) fp_AcQ)
    | refine And.intro (fun _ => ?_) (fun hne => absurd ?_ hne)
    | refine And.intro (fun hne => absurd ?_ hne) (fun _ => ?_)
  all_goals (first | exact LI_weak (E := []) hI h1 h2 (lx_c rfl) rfl (lx_Ao lx_A0 lx_Q1) fp_AcQ | rfl | (rw [m1, hR.1.1]) | (trace_state; fail))
theorem lx_c29 {l : Launch} {L : Nat} {xs : Nat → Int} {i : Int} (hX : lx_X xs) (hL : L ≤ 2560) (i0 : 0 ≤ i) (i1 : i ≤ (L : Int) - 5) (hH : lx_H l L xs i) (μ : am_N) (hI : lx_I μ) : am_AW l L xs 0 lx_Q 1053 [some (.inr (.inr 999)), some (.inr (.inr 0)), some (.inr (.inr 83)), some (.inl i)] [] μ := by
  have iL : (L : Int) ≤ 2560 := by omega
  have ix : ∀ k : Int, 0 ≤ k → k ≤ 4 → 0 ≤ am_c (i + k) ∧ am_c (i + k) < L := lx_ixT hL i0 i1
  have cx : ∀ j, am_c (xs j) = xs j := lx_cxT hX
  have hb := sx_all hI.1
  have hc := mi_all hI.2.1
  have hR := hI.2.2
  have hwM := hR.1.2
  have hwC : fp_fw 999 (fv μ 1) := by rw [hR.1.1]; exact hwM
  have n14 : 0 ≤ μ 1 4 ∧ μ 1 4 ≤ 4 := lx_n14T hI.1
  have nM : μ 1 4 = μ 83 14 := (fp_ct_n hR.1.1).1 4 (by decide)
  refine am_go (ct := fun pc => Nat.beq pc 1662) am_oL_law 60 ?_
  conv => whnf
  repeat' first
    | (refine (?_ : am_wp _ _ _ _ _ _ _ _ _ _ _ _); conv => whnf)
    | refine And.intro ⟨rfl, rfl⟩ ?_
    | refine And.intro (ix _ (by decide) (by decide)) ?_
    | refine And.intro trivial ?_
    | (refine s_back (by omega) (fun a1 μ1 f1 e62 ew r1 => ?_) (fun a0 μ1 f1 => ?_))
    | (have t33 : μ1 83 33 = μ 83 33 := f1 83 33 (by omega) (by omega) (by omega) (by omega); have h33 := hR.2.2.1.1; refine x_mback (by rw [t33]; omega) (by rw [t33]; omega) (fun μ2 f2 e33 ew2 r2 o2 q2 => ?_))
    | (have t33 : μ1 83 33 = μ 83 33 := f1 83 33 (by omega); have h33 := hR.2.2.1.1; refine n_back0 (by rw [t33]; omega) (fun μ2 f2 => ?_))
    | (refine hH _ ?_; first | exact LI_back hI a1 f1 e62 ew r1 f2 e33 ew2 r2 o2 q2 | exact LI_ref hI f1 f2)
  all_goals (first | exact LI_back hI a1 f1 e62 ew r1 f2 e33 ew2 r2 o2 q2 | exact LI_ref hI f1 f2 | (trace_state; fail))
theorem lx_c30 {l : Launch} {L : Nat} {xs : Nat → Int} {i : Int} (hX : lx_X xs) (hL : L ≤ 2560) (i0 : 0 ≤ i) (i1 : i ≤ (L : Int) - 5) (hH : lx_H l L xs i) (μ : am_N) (hI : lx_I μ) : am_AW l L xs 0 lx_Q 1066 [some (.inr (.inr 999)), some (.inr (.inr 0)), some (.inr (.inr 83)), some (.inl i)] [] μ := by
  have iL : (L : Int) ≤ 2560 := by omega
  have ix : ∀ k : Int, 0 ≤ k → k ≤ 4 → 0 ≤ am_c (i + k) ∧ am_c (i + k) < L := lx_ixT hL i0 i1
  refine am_go (ct := fun pc => Nat.beq pc 1662) am_oL_law 60 ?_
  conv => whnf
  repeat' first
    | (refine (?_ : am_wp _ _ _ _ _ _ _ _ _ _ _ _); conv => whnf)
    | refine And.intro ⟨rfl, rfl⟩ ?_
    | refine And.intro (ix _ (by decide) (by decide)) ?_
    | refine And.intro trivial ?_
    | refine v_bag_X6 _ hI.1 (hX _).1 (hX _).2 (fun r1 μ1 h1 f0 => ?_)
  have hE : lx_E [48, 49] := lx_c rfl
  have hm1 := lx_mi hE h1 hI.2.1
  repeat' first
    | (refine (?_ : am_wp _ _ _ _ _ _ _ _ _ _ _ _); conv => whnf)
    | refine And.intro ⟨rfl, rfl⟩ ?_
    | refine And.intro (ix _ (by decide) (by decide)) ?_
    | refine And.intro trivial ?_
    | refine m_bag _ hm1 (hX _).1 (hX _).2 (fun r2 μ2 h2 g0 => ?_)
  have hA : lx_A (mo ms (m1o 91 15)) := (lx_Ao lx_A0 (lx_mo (by decide)))
  have hI2 : lx_I μ2 := LI_weak hI h1 h2 hE rfl hA (fp_Aco fp_Acs (fp_Ac1 (by decide) (by decide)))
  repeat' first
    | (refine (?_ : am_wp _ _ _ _ _ _ _ _ _ _ _ _); conv => whnf)
    | refine And.intro trivial ?_
    | exact hH _ hI2
theorem lx_c31 {l : Launch} {L : Nat} {xs : Nat → Int} {i : Int} (hX : lx_X xs) (hL : L ≤ 2560) (i0 : 0 ≤ i) (i1 : i ≤ (L : Int) - 5) (hH : lx_H l L xs i) (μ : am_N) (hI : lx_I μ) : am_AW l L xs 0 lx_Q 1089 [some (.inr (.inr 999)), some (.inr (.inr 0)), some (.inr (.inr 83)), some (.inl i)] [] μ := by
  have iL : (L : Int) ≤ 2560 := by omega
  have ix : ∀ k : Int, 0 ≤ k → k ≤ 4 → 0 ≤ am_c (i + k) ∧ am_c (i + k) < L := lx_ixT hL i0 i1
  refine am_go (ct := fun pc => Nat.beq pc 1662) am_oL_law 60 ?_
  conv => whnf
  repeat' first
    | (refine (?_ : am_wp _ _ _ _ _ _ _ _ _ _ _ _); conv => whnf)
    | refine And.intro ⟨rfl, rfl⟩ ?_
    | refine And.intro (ix _ (by decide) (by decide)) ?_
    | refine And.intro trivial ?_
    | refine v_empty_X6  hI.1  (fun r1 μ1 h1 f0 f1 => ?_)
  have hE : lx_E [48] := lx_c rfl
  have hm1 := lx_mi hE h1 hI.2.1
  repeat' first
    | (refine (?_ : am_wp _ _ _ _ _ _ _ _ _ _ _ _); conv => whnf)
    | refine And.intro ⟨rfl, rfl⟩ ?_
    | refine And.intro (ix _ (by decide) (by decide)) ?_
    | refine And.intro trivial ?_
    | refine m_empty  hm1  (fun r2 μ2 h2 g0 g1 => ?_)
  have hA : lx_A (mo ms (m1o 83000 15)) := (lx_Ao lx_A0 (lx_mo (by decide)))
  have hI2 : lx_I μ2 := LI_weak hI h1 h2 hE rfl hA (fp_Aco fp_Acs (fp_Ac1 (by decide) (by decide)))
  repeat' first
    | (refine (?_ : am_wp _ _ _ _ _ _ _ _ _ _ _ _); conv => whnf)
    | refine And.intro trivial ?_
    | exact hH _ hI2
theorem lx_c32 {l : Launch} {L : Nat} {xs : Nat → Int} {i : Int} (hX : lx_X xs) (hL : L ≤ 2560) (i0 : 0 ≤ i) (i1 : i ≤ (L : Int) - 5) (hH : lx_H l L xs i) (μ : am_N) (hI : lx_I μ) : am_AW l L xs 0 lx_Q 1102 [some (.inr (.inr 999)), some (.inr (.inr 0)), some (.inr (.inr 83)), some (.inl i)] [] μ := by
  have iL : (L : Int) ≤ 2560 := by omega
  have ix : ∀ k : Int, 0 ≤ k → k ≤ 4 → 0 ≤ am_c (i + k) ∧ am_c (i + k) < L := lx_ixT hL i0 i1
  refine am_go (ct := fun pc => Nat.beq pc 1662) am_oL_law 60 ?_
  conv => whnf
  repeat' first
    | (refine (?_ : am_wp _ _ _ _ _ _ _ _ _ _ _ _); conv => whnf)
    | refine And.intro ⟨rfl, rfl⟩ ?_
    | refine And.intro (ix _ (by decide) (by decide)) ?_
    | refine And.intro trivial ?_
    | refine w_bags_X6 (ν := μ) _ _ _ hI.1 (hX _).1 (hX _).2 (hX _).1 (hX _).2 (hX _).1 (hX _).2 (fun r1 μ1 h0 => ?_)
  have h1 := gv_of_sx h0
  have hE : lx_E [] := lx_c rfl
  have hm1 := lx_mi hE h1 hI.2.1
  repeat' first
    | (refine (?_ : am_wp _ _ _ _ _ _ _ _ _ _ _ _); conv => whnf)
    | refine And.intro ⟨rfl, rfl⟩ ?_
    | refine And.intro (ix _ (by decide) (by decide)) ?_
    | refine And.intro trivial ?_
    | refine m_bags _ _ _ hm1 (hX _).1 (hX _).2 (hX _).1 (hX _).2 (hX _).1 (hX _).2 (fun r2 μ2 h2 => ?_)
  have hA : lx_A ms := lx_A0
  have hI2 : lx_I μ2 := LI_weak hI h1 h2 hE rfl hA fp_Acs
  repeat' first
    | (refine (?_ : am_wp _ _ _ _ _ _ _ _ _ _ _ _); conv => whnf)
    | refine And.intro trivial ?_
    | exact hH _ hI2
theorem lx_c33 {l : Launch} {L : Nat} {xs : Nat → Int} {i : Int} (hX : lx_X xs) (hL : L ≤ 2560) (i0 : 0 ≤ i) (i1 : i ≤ (L : Int) - 5) (hH : lx_H l L xs i) (μ : am_N) (hI : lx_I μ) : am_AW l L xs 0 lx_Q 1145 [some (.inr (.inr 999)), some (.inr (.inr 0)), some (.inr (.inr 83)), some (.inl i)] [] μ := by
  have iL : (L : Int) ≤ 2560 := by omega
  have ix : ∀ k : Int, 0 ≤ k → k ≤ 4 → 0 ≤ am_c (i + k) ∧ am_c (i + k) < L := lx_ixT hL i0 i1
  refine am_go (ct := fun pc => Nat.beq pc 1662) am_oL_law 60 ?_
  conv => whnf
  repeat' first
    | (refine (?_ : am_wp _ _ _ _ _ _ _ _ _ _ _ _); conv => whnf)
    | refine And.intro ⟨rfl, rfl⟩ ?_
    | refine And.intro (ix _ (by decide) (by decide)) ?_
    | refine And.intro trivial ?_
    | refine w_ahead_X6 (ν := μ) _ _ hI.1 (hX _).1 (hX _).2 (hX _).1 (hX _).2 (fun r1 μ1 h0 => ?_)
  have h1 := gv_of_sx h0
  have hE : lx_E [] := lx_c rfl
  have hm1 := lx_mi hE h1 hI.2.1
  repeat' first
    | (refine (?_ : am_wp _ _ _ _ _ _ _ _ _ _ _ _); conv => whnf)
    | refine And.intro ⟨rfl, rfl⟩ ?_
    | refine And.intro (ix _ (by decide) (by decide)) ?_
    | refine And.intro trivial ?_
    | refine m_ahead _ _ hm1 (hX _).1 (hX _).2 (hX _).1 (hX _).2 (fun r2 μ2 h2 => ?_)
  have hA : lx_A ms := lx_A0
  have hI2 : lx_I μ2 := LI_weak hI h1 h2 hE rfl hA fp_Acs
  repeat' first
    | (refine (?_ : am_wp _ _ _ _ _ _ _ _ _ _ _ _); conv => whnf)
    | refine And.intro trivial ?_
    | exact hH _ hI2
theorem lx_c34 {l : Launch} {L : Nat} {xs : Nat → Int} {i : Int} (hX : lx_X xs) (hL : L ≤ 2560) (i0 : 0 ≤ i) (i1 : i ≤ (L : Int) - 5) (hH : lx_H l L xs i) (μ : am_N) (hI : lx_I μ) : am_AW l L xs 0 lx_Q 1178 [some (.inr (.inr 999)), some (.inr (.inr 0)), some (.inr (.inr 83)), some (.inl i)] [] μ := by
  have iL : (L : Int) ≤ 2560 := by omega
  have ix : ∀ k : Int, 0 ≤ k → k ≤ 4 → 0 ≤ am_c (i + k) ∧ am_c (i + k) < L := lx_ixT hL i0 i1
  refine am_go (ct := fun pc => Nat.beq pc 1662) am_oL_law 60 ?_
  conv => whnf
  repeat' first
    | (refine (?_ : am_wp _ _ _ _ _ _ _ _ _ _ _ _); conv => whnf)
    | refine And.intro ⟨rfl, rfl⟩ ?_
    | refine And.intro (ix _ (by decide) (by decide)) ?_
    | refine And.intro trivial ?_
    | refine w_cup_X6 (ν := μ) _ _ _ hI.1 (hX _).1 (hX _).2 (hX _).1 (hX _).2 (hX _).1 (hX _).2 (fun r1 μ1 h0 => ?_)
  have h1 := gv_of_sx h0
  have hE : lx_E [] := lx_c rfl
  have hm1 := lx_mi hE h1 hI.2.1
  repeat' first
    | (refine (?_ : am_wp _ _ _ _ _ _ _ _ _ _ _ _); conv => whnf)
    | refine And.intro ⟨rfl, rfl⟩ ?_
    | refine And.intro (ix _ (by decide) (by decide)) ?_
    | refine And.intro trivial ?_
    | refine m_cup _ _ _ hm1 (hX _).1 (hX _).2 (hX _).1 (hX _).2 (hX _).1 (hX _).2 (fun r2 μ2 h2 => ?_)
  have hA : lx_A ms := lx_A0
  have hI2 : lx_I μ2 := LI_weak hI h1 h2 hE rfl hA fp_Acs
  repeat' first
    | (refine (?_ : am_wp _ _ _ _ _ _ _ _ _ _ _ _); conv => whnf)
    | refine And.intro trivial ?_
    | exact hH _ hI2
theorem lx_c35 {l : Launch} {L : Nat} {xs : Nat → Int} {i : Int} (hX : lx_X xs) (hL : L ≤ 2560) (i0 : 0 ≤ i) (i1 : i ≤ (L : Int) - 5) (hH : lx_H l L xs i) (μ : am_N) (hI : lx_I μ) : am_AW l L xs 0 lx_Q 1221 [some (.inr (.inr 999)), some (.inr (.inr 0)), some (.inr (.inr 83)), some (.inl i)] [] μ := by
  have iL : (L : Int) ≤ 2560 := by omega
  have ix : ∀ k : Int, 0 ≤ k → k ≤ 4 → 0 ≤ am_c (i + k) ∧ am_c (i + k) < L := lx_ixT hL i0 i1
  refine am_go (ct := fun pc => Nat.beq pc 1662) am_oL_law 60 ?_
  conv => whnf
  repeat' first
    | (refine (?_ : am_wp _ _ _ _ _ _ _ _ _ _ _ _); conv => whnf)
    | refine And.intro ⟨rfl, rfl⟩ ?_
    | refine And.intro (ix _ (by decide) (by decide)) ?_
    | refine And.intro trivial ?_
    | refine w_bracket_X6 (ν := μ) _ hI.1 (hX _).1 (hX _).2 (fun r1 μ1 h0 => ?_)
  have h1 := gv_of_sx h0
  have hE : lx_E [] := lx_c rfl
  have hm1 := lx_mi hE h1 hI.2.1
  repeat' first
    | (refine (?_ : am_wp _ _ _ _ _ _ _ _ _ _ _ _); conv => whnf)
    | refine And.intro ⟨rfl, rfl⟩ ?_
    | refine And.intro (ix _ (by decide) (by decide)) ?_
    | refine And.intro trivial ?_
    | refine m_bracket _ hm1 (hX _).1 (hX _).2 (fun r2 μ2 h2 => ?_)
  have hA : lx_A ms := lx_A0
  have hI2 : lx_I μ2 := LI_weak hI h1 h2 hE rfl hA fp_Acs
  repeat' first
    | (refine (?_ : am_wp _ _ _ _ _ _ _ _ _ _ _ _); conv => whnf)
    | refine And.intro trivial ?_
    | exact hH _ hI2
theorem lx_c36 {l : Launch} {L : Nat} {xs : Nat → Int} {i : Int} (hX : lx_X xs) (hL : L ≤ 2560) (i0 : 0 ≤ i) (i1 : i ≤ (L : Int) - 5) (hH : lx_H l L xs i) (μ : am_N) (hI : lx_I μ) : am_AW l L xs 0 lx_Q 1244 [some (.inr (.inr 999)), some (.inr (.inr 0)), some (.inr (.inr 83)), some (.inl i)] [] μ := by
  have iL : (L : Int) ≤ 2560 := by omega
  have ix : ∀ k : Int, 0 ≤ k → k ≤ 4 → 0 ≤ am_c (i + k) ∧ am_c (i + k) < L := lx_ixT hL i0 i1
  refine am_go (ct := fun pc => Nat.beq pc 1662) am_oL_law 60 ?_
  conv => whnf
  repeat' first
    | (refine (?_ : am_wp _ _ _ _ _ _ _ _ _ _ _ _); conv => whnf)
    | refine And.intro ⟨rfl, rfl⟩ ?_
    | refine And.intro (ix _ (by decide) (by decide)) ?_
    | refine And.intro trivial ?_
    | refine w_league_X6 (ν := μ) _ _ hI.1 (hX _).1 (hX _).2 (hX _).1 (hX _).2 (fun r1 μ1 h0 => ?_)
  have h1 := gv_of_sx h0
  have hE : lx_E [] := lx_c rfl
  have hm1 := lx_mi hE h1 hI.2.1
  repeat' first
    | (refine (?_ : am_wp _ _ _ _ _ _ _ _ _ _ _ _); conv => whnf)
    | refine And.intro ⟨rfl, rfl⟩ ?_
    | refine And.intro (ix _ (by decide) (by decide)) ?_
    | refine And.intro trivial ?_
    | refine m_league _ _ hm1 (hX _).1 (hX _).2 (hX _).1 (hX _).2 (fun r2 μ2 h2 => ?_)
  have hA : lx_A ms := lx_A0
  have hI2 : lx_I μ2 := LI_weak hI h1 h2 hE rfl hA fp_Acs
  repeat' first
    | (refine (?_ : am_wp _ _ _ _ _ _ _ _ _ _ _ _); conv => whnf)
    | refine And.intro trivial ?_
    | exact hH _ hI2
theorem lx_c37 {l : Launch} {L : Nat} {xs : Nat → Int} {i : Int} (hX : lx_X xs) (hL : L ≤ 2560) (i0 : 0 ≤ i) (i1 : i ≤ (L : Int) - 5) (hH : lx_H l L xs i) (μ : am_N) (hI : lx_I μ) : am_AW l L xs 0 lx_Q 1277 [some (.inr (.inr 999)), some (.inr (.inr 0)), some (.inr (.inr 83)), some (.inl i)] [] μ := by
  have iL : (L : Int) ≤ 2560 := by omega
  have ix : ∀ k : Int, 0 ≤ k → k ≤ 4 → 0 ≤ am_c (i + k) ∧ am_c (i + k) < L := lx_ixT hL i0 i1
  refine am_go (ct := fun pc => Nat.beq pc 1662) am_oL_law 60 ?_
  conv => whnf
  repeat' first
    | (refine (?_ : am_wp _ _ _ _ _ _ _ _ _ _ _ _); conv => whnf)
    | refine And.intro ⟨rfl, rfl⟩ ?_
    | refine And.intro (ix _ (by decide) (by decide)) ?_
    | refine And.intro trivial ?_
    | refine w_ranks_X6 (ν := μ)  hI.1  (fun r1 μ1 h0 => ?_)
  have h1 := gv_of_sx h0
  have hE : lx_E [] := lx_c rfl
  have hm1 := lx_mi hE h1 hI.2.1
  repeat' first
    | (refine (?_ : am_wp _ _ _ _ _ _ _ _ _ _ _ _); conv => whnf)
    | refine And.intro ⟨rfl, rfl⟩ ?_
    | refine And.intro (ix _ (by decide) (by decide)) ?_
    | refine And.intro trivial ?_
    | refine m_ranks  hm1  (fun r2 μ2 h2 => ?_)
  have hA : lx_A ms := lx_A0
  have hI2 : lx_I μ2 := LI_weak hI h1 h2 hE rfl hA fp_Acs
  repeat' first
    | (refine (?_ : am_wp _ _ _ _ _ _ _ _ _ _ _ _); conv => whnf)
    | refine And.intro trivial ?_
    | exact hH _ hI2
theorem lx_c38 {l : Launch} {L : Nat} {xs : Nat → Int} {i : Int} (hX : lx_X xs) (hL : L ≤ 2560) (i0 : 0 ≤ i) (i1 : i ≤ (L : Int) - 5) (hH : lx_H l L xs i) (μ : am_N) (hI : lx_I μ) : am_AW l L xs 0 lx_Q 1290 [some (.inr (.inr 999)), some (.inr (.inr 0)), some (.inr (.inr 83)), some (.inl i)] [] μ := by
  have iL : (L : Int) ≤ 2560 := by omega
  have ix : ∀ k : Int, 0 ≤ k → k ≤ 4 → 0 ≤ am_c (i + k) ∧ am_c (i + k) < L := lx_ixT hL i0 i1
  refine am_go (ct := fun pc => Nat.beq pc 1662) am_oL_law 60 ?_
  conv => whnf
  repeat' first
    | (refine (?_ : am_wp _ _ _ _ _ _ _ _ _ _ _ _); conv => whnf)
    | refine And.intro ⟨rfl, rfl⟩ ?_
    | refine And.intro (ix _ (by decide) (by decide)) ?_
    | refine And.intro trivial ?_
    | refine w_hold_X6 (ν := μ) _ _ hI.1 (hX _).1 (hX _).2 (hX _).1 (hX _).2 (fun r1 μ1 h0 => ?_)
  have h1 := gv_of_sx h0
  have hE : lx_E [] := lx_c rfl
  have hm1 := lx_mi hE h1 hI.2.1
  repeat' first
    | (refine (?_ : am_wp _ _ _ _ _ _ _ _ _ _ _ _); conv => whnf)
    | refine And.intro ⟨rfl, rfl⟩ ?_
    | refine And.intro (ix _ (by decide) (by decide)) ?_
    | refine And.intro trivial ?_
    | refine m_hold _ _ hm1 (hX _).1 (hX _).2 (hX _).1 (hX _).2 (fun r2 μ2 h2 => ?_)
  have hA : lx_A ms := lx_A0
  have hI2 : lx_I μ2 := LI_weak hI h1 h2 hE rfl hA fp_Acs
  repeat' first
    | (refine (?_ : am_wp _ _ _ _ _ _ _ _ _ _ _ _); conv => whnf)
    | refine And.intro trivial ?_
    | exact hH _ hI2
/-! the law: cases -/
theorem lx_c39 {l : Launch} {L : Nat} {xs : Nat → Int} {i : Int} (hX : lx_X xs) (hL : L ≤ 2560) (i0 : 0 ≤ i) (i1 : i ≤ (L : Int) - 5) (hH : lx_H l L xs i) (μ : am_N) (hI : lx_I μ) : am_AW l L xs 0 lx_Q 1323 [some (.inr (.inr 999)), some (.inr (.inr 0)), some (.inr (.inr 83)), some (.inl i)] [] μ := by
  have iL : (L : Int) ≤ 2560 := by omega
  have ix : ∀ k : Int, 0 ≤ k → k ≤ 4 → 0 ≤ am_c (i + k) ∧ am_c (i + k) < L := lx_ixT hL i0 i1
  refine am_go (ct := fun pc => Nat.beq pc 1662) am_oL_law 60 ?_
  conv => whnf
  repeat' first
    | (refine (?_ : am_wp _ _ _ _ _ _ _ _ _ _ _ _); conv => whnf)
    | refine And.intro ⟨rfl, rfl⟩ ?_
    | refine And.intro (ix _ (by decide) (by decide)) ?_
    | refine And.intro trivial ?_
    | refine w_legs_X6 (ν := μ) _ _ _ _ hI.1 (hX _).1 (hX _).2 (hX _).1 (hX _).2 (hX _).1 (hX _).2 (hX _).1 (hX _).2 (fun r1 μ1 h0 => ?_)
  have h1 := gv_of_sx h0
  have hE : lx_E [] := lx_c rfl
  have hm1 := lx_mi hE h1 hI.2.1
  repeat' first
    | (refine (?_ : am_wp _ _ _ _ _ _ _ _ _ _ _ _); conv => whnf)
    | refine And.intro ⟨rfl, rfl⟩ ?_
    | refine And.intro (ix _ (by decide) (by decide)) ?_
    | refine And.intro trivial ?_
    | refine m_legs _ _ _ _ hm1 (hX _).1 (hX _).2 (hX _).1 (hX _).2 (hX _).1 (hX _).2 (hX _).1 (hX _).2 (fun r2 μ2 h2 => ?_)
  have hA : lx_A ms := lx_A0
  have hI2 : lx_I μ2 := LI_weak hI h1 h2 hE rfl hA fp_Acs
  repeat' first
    | (refine (?_ : am_wp _ _ _ _ _ _ _ _ _ _ _ _); conv => whnf)
    | refine And.intro trivial ?_
    | exact hH _ hI2
theorem lx_c40 {l : Launch} {L : Nat} {xs : Nat → Int} {i : Int} (hX : lx_X xs) (hL : L ≤ 2560) (i0 : 0 ≤ i) (i1 : i ≤ (L : Int) - 5) (hH : lx_H l L xs i) (μ : am_N) (hI : lx_I μ) : am_AW l L xs 0 lx_Q 1376 [some (.inr (.inr 999)), some (.inr (.inr 0)), some (.inr (.inr 83)), some (.inl i)] [] μ := by
  have iL : (L : Int) ≤ 2560 := by omega
  have ix : ∀ k : Int, 0 ≤ k → k ≤ 4 → 0 ≤ am_c (i + k) ∧ am_c (i + k) < L := lx_ixT hL i0 i1
  refine am_go (ct := fun pc => Nat.beq pc 1662) am_oL_law 60 ?_
  conv => whnf
  repeat' first
    | (refine (?_ : am_wp _ _ _ _ _ _ _ _ _ _ _ _); conv => whnf)
    | refine And.intro ⟨rfl, rfl⟩ ?_
    | refine And.intro (ix _ (by decide) (by decide)) ?_
    | refine And.intro trivial ?_
    | refine w_bet_X6 (ν := μ)  hI.1  (fun r1 μ1 h0 => ?_)
  have h1 := gv_of_sx h0
  have hE : lx_E [] := lx_c rfl
  have hm1 := lx_mi hE h1 hI.2.1
  repeat' first
    | (refine (?_ : am_wp _ _ _ _ _ _ _ _ _ _ _ _); conv => whnf)
    | refine And.intro ⟨rfl, rfl⟩ ?_
    | refine And.intro (ix _ (by decide) (by decide)) ?_
    | refine And.intro trivial ?_
    | refine m_bet  hm1  (fun r2 μ2 h2 => ?_)
  have hA : lx_A ms := lx_A0
  have hI2 : lx_I μ2 := LI_weak hI h1 h2 hE rfl hA fp_Acs
  repeat' first
    | (refine (?_ : am_wp _ _ _ _ _ _ _ _ _ _ _ _); conv => whnf)
    | refine And.intro trivial ?_
    | exact hH _ hI2
theorem lx_c41 {l : Launch} {L : Nat} {xs : Nat → Int} {i : Int} (hX : lx_X xs) (hL : L ≤ 2560) (i0 : 0 ≤ i) (i1 : i ≤ (L : Int) - 5) (hH : lx_H l L xs i) (μ : am_N) (hI : lx_I μ) : am_AW l L xs 0 lx_Q 1389 [some (.inr (.inr 999)), some (.inr (.inr 0)), some (.inr (.inr 83)), some (.inl i)] [] μ := by
  have iL : (L : Int) ≤ 2560 := by omega
  have ix : ∀ k : Int, 0 ≤ k → k ≤ 4 → 0 ≤ am_c (i + k) ∧ am_c (i + k) < L := lx_ixT hL i0 i1
  refine am_go (ct := fun pc => Nat.beq pc 1662) am_oL_law 60 ?_
  conv => whnf
  repeat' first
    | (refine (?_ : am_wp _ _ _ _ _ _ _ _ _ _ _ _); conv => whnf)
    | refine And.intro ⟨rfl, rfl⟩ ?_
    | refine And.intro (ix _ (by decide) (by decide)) ?_
    | refine And.intro trivial ?_
    | refine w_bets_X6 (ν := μ) _ hI.1 (hX _).1 (hX _).2 (fun r1 μ1 h0 => ?_)
  have h1 := gv_of_sx h0
  have hE : lx_E [] := lx_c rfl
  have hm1 := lx_mi hE h1 hI.2.1
  repeat' first
    | (refine (?_ : am_wp _ _ _ _ _ _ _ _ _ _ _ _); conv => whnf)
    | refine And.intro ⟨rfl, rfl⟩ ?_
    | refine And.intro (ix _ (by decide) (by decide)) ?_
    | refine And.intro trivial ?_
    | refine m_bets _ hm1 (hX _).1 (hX _).2 (fun r2 μ2 h2 => ?_)
  have hA : lx_A ms := lx_A0
  have hI2 : lx_I μ2 := LI_weak hI h1 h2 hE rfl hA fp_Acs
  repeat' first
    | (refine (?_ : am_wp _ _ _ _ _ _ _ _ _ _ _ _); conv => whnf)
    | refine And.intro trivial ?_
    | exact hH _ hI2
theorem lx_c42 {l : Launch} {L : Nat} {xs : Nat → Int} {i : Int} (hX : lx_X xs) (hL : L ≤ 2560) (i0 : 0 ≤ i) (i1 : i ≤ (L : Int) - 5) (hH : lx_H l L xs i) (μ : am_N) (hI : lx_I μ) : am_AW l L xs 0 lx_Q 1412 [some (.inr (.inr 999)), some (.inr (.inr 0)), some (.inr (.inr 83)), some (.inl i)] [] μ := by
  have iL : (L : Int) ≤ 2560 := by omega
  have ix : ∀ k : Int, 0 ≤ k → k ≤ 4 → 0 ≤ am_c (i + k) ∧ am_c (i + k) < L := lx_ixT hL i0 i1
  refine am_go (ct := fun pc => Nat.beq pc 1662) am_oL_law 60 ?_
  conv => whnf
  repeat' first
    | (refine (?_ : am_wp _ _ _ _ _ _ _ _ _ _ _ _); conv => whnf)
    | refine And.intro ⟨rfl, rfl⟩ ?_
    | refine And.intro (ix _ (by decide) (by decide)) ?_
    | refine And.intro trivial ?_
    | refine v_habit_X6 _ _ hI.1 (hX _).1 (hX _).2 (hX _).1 (hX _).2 (fun r1 μ1 h1 => ?_)
  have hE : lx_E [52, 53, 54, 55, 56] := lx_c rfl
  have hm1 := lx_mi hE h1 hI.2.1
  repeat' first
    | (refine (?_ : am_wp _ _ _ _ _ _ _ _ _ _ _ _); conv => whnf)
    | refine And.intro ⟨rfl, rfl⟩ ?_
    | refine And.intro (ix _ (by decide) (by decide)) ?_
    | refine And.intro trivial ?_
    | refine m_habit _ _ hm1 (hX _).1 (hX _).2 (hX _).1 (hX _).2 (fun r2 μ2 h2 => ?_)
  have hA : lx_A (mo ms (mo (m1o 92 16) (m1o 93 16))) := (lx_Ao lx_A0 (lx_Ao (lx_mo (by decide)) (lx_mo (by decide))))
  have hI2 : lx_I μ2 := LI_weak hI h1 h2 hE rfl hA (fp_Aco fp_Acs (fp_Aco (fp_Ac1 (by decide) (by decide)) (fp_Ac1 (by decide) (by decide))))
  repeat' first
    | (refine (?_ : am_wp _ _ _ _ _ _ _ _ _ _ _ _); conv => whnf)
    | refine And.intro trivial ?_
    | exact hH _ hI2
theorem lx_c43 {l : Launch} {L : Nat} {xs : Nat → Int} {i : Int} (hX : lx_X xs) (hL : L ≤ 2560) (i0 : 0 ≤ i) (i1 : i ≤ (L : Int) - 5) (hH : lx_H l L xs i) (μ : am_N) (hI : lx_I μ) : am_AW l L xs 0 lx_Q 1445 [some (.inr (.inr 999)), some (.inr (.inr 0)), some (.inr (.inr 83)), some (.inl i)] [] μ := by
  have iL : (L : Int) ≤ 2560 := by omega
  have ix : ∀ k : Int, 0 ≤ k → k ≤ 4 → 0 ≤ am_c (i + k) ∧ am_c (i + k) < L := lx_ixT hL i0 i1
  refine am_go (ct := fun pc => Nat.beq pc 1662) am_oL_law 60 ?_
  conv => whnf
  repeat' first
    | (refine (?_ : am_wp _ _ _ _ _ _ _ _ _ _ _ _); conv => whnf)
    | refine And.intro ⟨rfl, rfl⟩ ?_
    | refine And.intro (ix _ (by decide) (by decide)) ?_
    | refine And.intro trivial ?_
    | refine v_forget_X6  hI.1  (fun r1 μ1 h1 => ?_)
  have hE : lx_E [53, 55] := lx_c rfl
  have hm1 := lx_mi hE h1 hI.2.1
  repeat' first
    | (refine (?_ : am_wp _ _ _ _ _ _ _ _ _ _ _ _); conv => whnf)
    | refine And.intro ⟨rfl, rfl⟩ ?_
    | refine And.intro (ix _ (by decide) (by decide)) ?_
    | refine And.intro trivial ?_
    | refine m_forget  hm1  (fun r2 μ2 h2 g0 g1 => ?_)
  have hA : lx_A (mo ms (m1o 83000 16)) := (lx_Ao lx_A0 (lx_mo (by decide)))
  have hI2 : lx_I μ2 := LI_weak hI h1 h2 hE rfl hA (fp_Aco fp_Acs (fp_Ac1 (by decide) (by decide)))
  repeat' first
    | (refine (?_ : am_wp _ _ _ _ _ _ _ _ _ _ _ _); conv => whnf)
    | refine And.intro trivial ?_
    | exact hH _ hI2
theorem lx_c44 {l : Launch} {L : Nat} {xs : Nat → Int} {i : Int} (hX : lx_X xs) (hL : L ≤ 2560) (i0 : 0 ≤ i) (i1 : i ≤ (L : Int) - 5) (hH : lx_H l L xs i) (μ : am_N) (hI : lx_I μ) : am_AW l L xs 0 lx_Q 1458 [some (.inr (.inr 999)), some (.inr (.inr 0)), some (.inr (.inr 83)), some (.inl i)] [] μ := by
  have iL : (L : Int) ≤ 2560 := by omega
  have ix : ∀ k : Int, 0 ≤ k → k ≤ 4 → 0 ≤ am_c (i + k) ∧ am_c (i + k) < L := lx_ixT hL i0 i1
  refine am_go (ct := fun pc => Nat.beq pc 1662) am_oL_law 60 ?_
  conv => whnf
  repeat' first
    | (refine (?_ : am_wp _ _ _ _ _ _ _ _ _ _ _ _); conv => whnf)
    | refine And.intro ⟨rfl, rfl⟩ ?_
    | refine And.intro (ix _ (by decide) (by decide)) ?_
    | refine And.intro trivial ?_
    | refine w_tried_X6 (ν := μ) _ _ hI.1 (hX _).1 (hX _).2 (hX _).1 (hX _).2 (fun r1 μ1 h0 => ?_)
  have h1 := gv_of_sx h0
  have hE : lx_E [] := lx_c rfl
  have hm1 := lx_mi hE h1 hI.2.1
  repeat' first
    | (refine (?_ : am_wp _ _ _ _ _ _ _ _ _ _ _ _); conv => whnf)
    | refine And.intro ⟨rfl, rfl⟩ ?_
    | refine And.intro (ix _ (by decide) (by decide)) ?_
    | refine And.intro trivial ?_
    | refine m_tried _ _ hm1 (hX _).1 (hX _).2 (hX _).1 (hX _).2 (fun r2 μ2 h2 => ?_)
  have hA : lx_A mQ := (lx_Ao lx_A0 lx_Q1)
  have hI2 : lx_I μ2 := LI_weak hI h1 h2 hE rfl hA fp_AcQ
  repeat' first
    | (refine (?_ : am_wp _ _ _ _ _ _ _ _ _ _ _ _); conv => whnf)
    | refine And.intro trivial ?_
    | exact hH _ hI2
theorem lx_c45 {l : Launch} {L : Nat} {xs : Nat → Int} {i : Int} (hX : lx_X xs) (hL : L ≤ 2560) (i0 : 0 ≤ i) (i1 : i ≤ (L : Int) - 5) (hH : lx_H l L xs i) (μ : am_N) (hI : lx_I μ) : am_AW l L xs 0 lx_Q 1491 [some (.inr (.inr 999)), some (.inr (.inr 0)), some (.inr (.inr 83)), some (.inl i)] [] μ := by
  have iL : (L : Int) ≤ 2560 := by omega
  have ix : ∀ k : Int, 0 ≤ k → k ≤ 4 → 0 ≤ am_c (i + k) ∧ am_c (i + k) < L := lx_ixT hL i0 i1
  refine am_go (ct := fun pc => Nat.beq pc 1662) am_oL_law 60 ?_
  conv => whnf
  repeat' first
    | (refine (?_ : am_wp _ _ _ _ _ _ _ _ _ _ _ _); conv => whnf)
    | refine And.intro ⟨rfl, rfl⟩ ?_
    | refine And.intro (ix _ (by decide) (by decide)) ?_
    | refine And.intro trivial ?_
    | refine w_had_X6 (ν := μ) _ _ _ _ hI.1 (hX _).1 (hX _).2 (hX _).1 (hX _).2 (hX _).1 (hX _).2 (hX _).1 (hX _).2 (fun r1 μ1 h0 => ?_)
  have h1 := gv_of_sx h0
  have hE : lx_E [] := lx_c rfl
  have hm1 := lx_mi hE h1 hI.2.1
  repeat' first
    | (refine (?_ : am_wp _ _ _ _ _ _ _ _ _ _ _ _); conv => whnf)
    | refine And.intro ⟨rfl, rfl⟩ ?_
    | refine And.intro (ix _ (by decide) (by decide)) ?_
    | refine And.intro trivial ?_
    | refine m_had _ _ _ _ hm1 (hX _).1 (hX _).2 (hX _).1 (hX _).2 (hX _).1 (hX _).2 (hX _).1 (hX _).2 (fun r2 μ2 h2 => ?_)
  have hA : lx_A mQ := (lx_Ao lx_A0 lx_Q1)
  have hI2 : lx_I μ2 := LI_weak hI h1 h2 hE rfl hA fp_AcQ
  repeat' first
    | (refine (?_ : am_wp _ _ _ _ _ _ _ _ _ _ _ _); conv => whnf)
    | refine And.intro trivial ?_
    | exact hH _ hI2
theorem lx_c46 {l : Launch} {L : Nat} {xs : Nat → Int} {i : Int} (hX : lx_X xs) (hL : L ≤ 2560) (i0 : 0 ≤ i) (i1 : i ≤ (L : Int) - 5) (hH : lx_H l L xs i) (μ : am_N) (hI : lx_I μ) : am_AW l L xs 0 lx_Q 1544 [some (.inr (.inr 999)), some (.inr (.inr 0)), some (.inr (.inr 83)), some (.inl i)] [] μ := by
  have iL : (L : Int) ≤ 2560 := by omega
  have ix : ∀ k : Int, 0 ≤ k → k ≤ 4 → 0 ≤ am_c (i + k) ∧ am_c (i + k) < L := lx_ixT hL i0 i1
  refine am_go (ct := fun pc => Nat.beq pc 1662) am_oL_law 60 ?_
  conv => whnf
  repeat' first
    | (refine (?_ : am_wp _ _ _ _ _ _ _ _ _ _ _ _); conv => whnf)
    | refine And.intro ⟨rfl, rfl⟩ ?_
    | refine And.intro (ix _ (by decide) (by decide)) ?_
    | refine And.intro trivial ?_
    | refine v_time_X6 _ hI.1 (hX _).1 (hX _).2 (fun r1 μ1 h1 f0 => ?_)
  have hE : lx_E [46, 47] := lx_c rfl
  have hm1 := lx_mi hE h1 hI.2.1
  repeat' first
    | (refine (?_ : am_wp _ _ _ _ _ _ _ _ _ _ _ _); conv => whnf)
    | refine And.intro ⟨rfl, rfl⟩ ?_
    | refine And.intro (ix _ (by decide) (by decide)) ?_
    | refine And.intro trivial ?_
    | refine m_time _ hm1 (hX _).1 (hX _).2 (fun r2 μ2 h2 g0 => ?_)
  have hA : lx_A (mo ms (m1o 105 40)) := (lx_Ao lx_A0 (lx_mo (by decide)))
  have hI2 : lx_I μ2 := LI_weak hI h1 h2 hE rfl hA (fp_Aco fp_Acs (fp_Ac1 (by decide) (by decide)))
  repeat' first
    | (refine (?_ : am_wp _ _ _ _ _ _ _ _ _ _ _ _); conv => whnf)
    | refine And.intro trivial ?_
    | exact hH _ hI2
theorem lx_c47 {l : Launch} {L : Nat} {xs : Nat → Int} {i : Int} (hX : lx_X xs) (hL : L ≤ 2560) (i0 : 0 ≤ i) (i1 : i ≤ (L : Int) - 5) (hH : lx_H l L xs i) (μ : am_N) (hI : lx_I μ) : am_AW l L xs 0 lx_Q 1567 [some (.inr (.inr 999)), some (.inr (.inr 0)), some (.inr (.inr 83)), some (.inl i)] [] μ := by
  have iL : (L : Int) ≤ 2560 := by omega
  have ix : ∀ k : Int, 0 ≤ k → k ≤ 4 → 0 ≤ am_c (i + k) ∧ am_c (i + k) < L := lx_ixT hL i0 i1
  refine am_go (ct := fun pc => Nat.beq pc 1662) am_oL_law 60 ?_
  conv => whnf
  repeat' first
    | (refine (?_ : am_wp _ _ _ _ _ _ _ _ _ _ _ _); conv => whnf)
    | refine And.intro ⟨rfl, rfl⟩ ?_
    | refine And.intro (ix _ (by decide) (by decide)) ?_
    | refine And.intro trivial ?_
    | refine w_past_X6 (ν := μ) _ _ hI.1 (hX _).1 (hX _).2 (hX _).1 (hX _).2 (fun r1 μ1 h0 => ?_)
  have h1 := gv_of_sx h0
  have hE : lx_E [] := lx_c rfl
  have hm1 := lx_mi hE h1 hI.2.1
  repeat' first
    | (refine (?_ : am_wp _ _ _ _ _ _ _ _ _ _ _ _); conv => whnf)
    | refine And.intro ⟨rfl, rfl⟩ ?_
    | refine And.intro (ix _ (by decide) (by decide)) ?_
    | refine And.intro trivial ?_
    | refine m_past _ _ hm1 (hX _).1 (hX _).2 (hX _).1 (hX _).2 (fun r2 μ2 h2 => ?_)
  have hA : lx_A ms := lx_A0
  have hI2 : lx_I μ2 := LI_weak hI h1 h2 hE rfl hA fp_Acs
  repeat' first
    | (refine (?_ : am_wp _ _ _ _ _ _ _ _ _ _ _ _); conv => whnf)
    | refine And.intro trivial ?_
    | exact hH _ hI2
theorem lx_c48 {l : Launch} {L : Nat} {xs : Nat → Int} {i : Int} (hX : lx_X xs) (hL : L ≤ 2560) (i0 : 0 ≤ i) (i1 : i ≤ (L : Int) - 5) (hH : lx_H l L xs i) (μ : am_N) (hI : lx_I μ) : am_AW l L xs 0 lx_Q 1600 [some (.inr (.inr 999)), some (.inr (.inr 0)), some (.inr (.inr 83)), some (.inl i)] [] μ := by
  have iL : (L : Int) ≤ 2560 := by omega
  have ix : ∀ k : Int, 0 ≤ k → k ≤ 4 → 0 ≤ am_c (i + k) ∧ am_c (i + k) < L := lx_ixT hL i0 i1
  refine am_go (ct := fun pc => Nat.beq pc 1662) am_oL_law 60 ?_
  conv => whnf
  repeat' first
    | (refine (?_ : am_wp _ _ _ _ _ _ _ _ _ _ _ _); conv => whnf)
    | refine And.intro ⟨rfl, rfl⟩ ?_
    | refine And.intro (ix _ (by decide) (by decide)) ?_
    | refine And.intro trivial ?_
    | refine v_wipe_X6  hI.1  (fun r1 μ1 h1 f0 f1 => ?_)
  have hE : lx_E [46] := lx_c rfl
  have hm1 := lx_mi hE h1 hI.2.1
  repeat' first
    | (refine (?_ : am_wp _ _ _ _ _ _ _ _ _ _ _ _); conv => whnf)
    | refine And.intro ⟨rfl, rfl⟩ ?_
    | refine And.intro (ix _ (by decide) (by decide)) ?_
    | refine And.intro trivial ?_
    | refine m_wipe  hm1  (fun r2 μ2 h2 g0 g1 => ?_)
  have hA : lx_A (mo ms (m1o 83000 40)) := (lx_Ao lx_A0 (lx_mo (by decide)))
  have hI2 : lx_I μ2 := LI_weak hI h1 h2 hE rfl hA (fp_Aco fp_Acs (fp_Ac1 (by decide) (by decide)))
  repeat' first
    | (refine (?_ : am_wp _ _ _ _ _ _ _ _ _ _ _ _); conv => whnf)
    | refine And.intro trivial ?_
    | exact hH _ hI2
theorem lx_c49 {l : Launch} {L : Nat} {xs : Nat → Int} {i : Int} (hX : lx_X xs) (hL : L ≤ 2560) (i0 : 0 ≤ i) (i1 : i ≤ (L : Int) - 5) (hH : lx_H l L xs i) (μ : am_N) (hI : lx_I μ) : am_AW l L xs 0 lx_Q 1613 [some (.inr (.inr 999)), some (.inr (.inr 0)), some (.inr (.inr 83)), some (.inl i)] [] μ := by
  have iL : (L : Int) ≤ 2560 := by omega
  have ix : ∀ k : Int, 0 ≤ k → k ≤ 4 → 0 ≤ am_c (i + k) ∧ am_c (i + k) < L := lx_ixT hL i0 i1
  have cx : ∀ j, am_c (xs j) = xs j := lx_cxT hX
  have hb := sx_all hI.1
  have hc := mi_all hI.2.1
  have hR := hI.2.2
  have hwM := hR.1.2
  have hwC : fp_fw 999 (fv μ 1) := by rw [hR.1.1]; exact hwM
  have n14 : 0 ≤ μ 1 4 ∧ μ 1 4 ≤ 4 := lx_n14T hI.1
  have nM : μ 1 4 = μ 83 14 := (fp_ct_n hR.1.1).1 4 (by decide)
  refine am_go (ct := fun pc => Nat.beq pc 1662) am_oL_law 60 ?_
  conv => whnf
  repeat' first
    | (refine (?_ : am_wp _ _ _ _ _ _ _ _ _ _ _ _); conv => whnf)
    | refine And.intro ⟨rfl, rfl⟩ ?_
    | refine And.intro (ix _ (by decide) (by decide)) ?_
    | refine And.intro trivial ?_
    | (refine s_image (by omega) (fun μ1 f1 h1 e15 e50 x51 e58 x59 e60 x61 => ?_))
    | refine n_image (fun μ2 f2 e25 u => ?_)
    | (refine hH _ ?_; first | exact LI_image hI f1 h1 e15 e50 e58 e60 f2 e25 u)
  all_goals (first | exact LI_image hI f1 h1 e15 e50 e58 e60 f2 e25 u | (trace_state; fail))
theorem lx_c50 {l : Launch} {L : Nat} {xs : Nat → Int} {i : Int} (hX : lx_X xs) (hL : L ≤ 2560) (i0 : 0 ≤ i) (i1 : i ≤ (L : Int) - 5) (hH : lx_H l L xs i) (μ : am_N) (hI : lx_I μ) : am_AW l L xs 0 lx_Q 1626 [some (.inr (.inr 999)), some (.inr (.inr 0)), some (.inr (.inr 83)), some (.inl i)] [] μ := by
  have iL : (L : Int) ≤ 2560 := by omega
  have ix : ∀ k : Int, 0 ≤ k → k ≤ 4 → 0 ≤ am_c (i + k) ∧ am_c (i + k) < L := lx_ixT hL i0 i1
  have cx : ∀ j, am_c (xs j) = xs j := lx_cxT hX
  have hb := sx_all hI.1
  have hc := mi_all hI.2.1
  have hR := hI.2.2
  have hwM := hR.1.2
  have hwC : fp_fw 999 (fv μ 1) := by rw [hR.1.1]; exact hwM
  have n14 : 0 ≤ μ 1 4 ∧ μ 1 4 ≤ 4 := lx_n14T hI.1
  have nM : μ 1 4 = μ 83 14 := (fp_ct_n hR.1.1).1 4 (by decide)
  refine am_go (ct := fun pc => Nat.beq pc 1662) am_oL_law 60 ?_
  conv => whnf
  repeat' first
    | (refine (?_ : am_wp _ _ _ _ _ _ _ _ _ _ _ _); conv => whnf)
    | refine And.intro ⟨rfl, rfl⟩ ?_
    | refine And.intro (ix _ (by decide) (by decide)) ?_
    | refine And.intro trivial ?_
    | (have c15 : am_c (μ 0 15) = μ 0 15 := (by rcases hR.2.2.2 with ⟨a, -⟩ | ⟨a, -⟩ <;> rw [a] <;> rfl); refine s_restore (by omega) c15 (fun a1 μ1 f1 h1 z62 e48 x49 e53 x54 e55 x56 => ?_) (fun a0 μ1 f1 => ?_))
    | (have t25 : μ1 83 25 = μ 83 25 := f1 83 25 (by omega) (by omega) (by omega) (by omega); have c25 : am_c (μ1 83 25) = μ1 83 25 := (by rw [t25]; rcases hR.2.2.2 with ⟨-, a⟩ | ⟨-, a, -⟩ <;> rw [a] <;> rfl); refine n_restore c25 (fun b1 μ2 f2 u z33 => ?_) (fun b0 μ2 f2 => ?_))
    | (have t25 : μ1 83 25 = μ 83 25 := f1 83 25 (by omega); have c25 : am_c (μ1 83 25) = μ1 83 25 := (by rw [t25]; rcases hR.2.2.2 with ⟨-, a⟩ | ⟨-, a, -⟩ <;> rw [a] <;> rfl); refine n_restore c25 (fun b1 μ2 f2 u z33 => ?_) (fun b0 μ2 f2 => ?_))
    | (refine hH _ ?_; first | exact LI_restore hI a1 f1 h1 z62 e48 e53 e55 f2 u z33 | exact LI_ref hI f1 f2 | (exfalso; rcases hR.2.2.2 with ⟨x, y⟩ | ⟨x, y, -⟩ <;> rw [t25] at * <;> omega))
  all_goals (first | exact LI_restore hI a1 f1 h1 z62 e48 e53 e55 f2 u z33 | exact LI_ref hI f1 f2 | (exfalso; rcases hR.2.2.2 with ⟨x, y⟩ | ⟨x, y, -⟩ <;> rw [t25] at * <;> omega) | (trace_state; fail))
theorem lx_c51 {l : Launch} {L : Nat} {xs : Nat → Int} {i : Int} (hX : lx_X xs) (hL : L ≤ 2560) (i0 : 0 ≤ i) (i1 : i ≤ (L : Int) - 5) (hH : lx_H l L xs i) (μ : am_N) (hI : lx_I μ) : am_AW l L xs 0 lx_Q 1639 [some (.inr (.inr 999)), some (.inr (.inr 0)), some (.inr (.inr 83)), some (.inl i)] [] μ := by
  have iL : (L : Int) ≤ 2560 := by omega
  have ix : ∀ k : Int, 0 ≤ k → k ≤ 4 → 0 ≤ am_c (i + k) ∧ am_c (i + k) < L := lx_ixT hL i0 i1
  refine am_go (ct := fun pc => Nat.beq pc 1662) am_oL_law 60 ?_
  conv => whnf
  repeat' first
    | (refine (?_ : am_wp _ _ _ _ _ _ _ _ _ _ _ _); conv => whnf)
    | refine And.intro ⟨rfl, rfl⟩ ?_
    | refine And.intro (ix _ (by decide) (by decide)) ?_
    | refine And.intro trivial ?_
    | refine w_count_X6 (ν := μ) _ hI.1 (hX _).1 (hX _).2 (fun r1 μ1 h0 => ?_)
  have h1 := gv_of_sx h0
  have hE : lx_E [] := lx_c rfl
  have hm1 := lx_mi hE h1 hI.2.1
  repeat' first
    | (refine (?_ : am_wp _ _ _ _ _ _ _ _ _ _ _ _); conv => whnf)
    | refine And.intro ⟨rfl, rfl⟩ ?_
    | refine And.intro (ix _ (by decide) (by decide)) ?_
    | refine And.intro trivial ?_
    | refine m_count _ hm1 (hX _).1 (hX _).2 (fun r2 μ2 h2 => ?_)
  have hA : lx_A ms := lx_A0
  have hI2 : lx_I μ2 := LI_weak hI h1 h2 hE rfl hA fp_Acs
  repeat' first
    | (refine (?_ : am_wp _ _ _ _ _ _ _ _ _ _ _ _); conv => whnf)
    | refine And.intro trivial ?_
    | exact hH _ hI2
